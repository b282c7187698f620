import java.math.BigInteger;
import java.util.HashMap;
import java.util.List;
import java.util.Map;

/**
 * What the document asks, written once more in another way, for RandomRunsTest to compare with: a
 * call for each rank, whole numbers of any size, Strings and a map.
 */
final class PlainSum {
    private static final List<List<String>> RANKS = List.of(List.of("||"), List.of("&&"), List.of("|"), List.of("^"), List.of("&"),
        List.of("==", "!="), List.of("<", "<=", ">", ">="), List.of("<<", ">>"), List.of("+", "-"), List.of("*", "/", "%"));
    private static final List<String> ASSIGNING = List.of("<<=", ">>=", "*=", "/=", "%=", "+=", "-=", "&=", "^=", "|=", "=");
    private static final List<String> NOT_AHEAD_OF_EQUALS = List.of("|", "^", "&", "<<", ">>", "+", "-", "*", "/", "%");

    final Map<String, String> texts = new HashMap<>();
    String text = "";
    String hand = "a";
    int right = 0;
    int wrong = 0;
    private String rest = "";

    int text(String chars) {
        if (!chars.matches("[\t\n -~]{0,8}") || text.length() + chars.length() > 300) {
            return -1;
        }
        text += chars;
        return text.length();
    }

    Object value() {
        rest = text;
        text = "";
        try {
            skip();
            long value = rest.isEmpty() ? 0 : e(0, true);
            skip();
            check(rest.isEmpty());
            right++;
            return value;
        } catch (IllegalStateException e) {
            wrong++;
            return Calls.ERROR;
        }
    }

    boolean name(String chars) {
        if (!chars.matches("[A-Za-z_][A-Za-z0-9_]{0,7}")) {
            return false;
        }
        hand = chars;
        return true;
    }

    boolean put(String chars) {
        if (!chars.matches("[\t\n -~]{0,8}") || texts.size() == 64 && !texts.containsKey(hand)) {
            return false;
        }
        texts.put(hand, chars);
        return true;
    }

    boolean drop() {
        return texts.remove(hand) != null;
    }

    int letter(int i) {
        String has = texts.get(hand);
        return has == null || i < 0 || i >= has.length() ? -1 : has.charAt(i);
    }

    int count(int what) {
        String has = texts.get(hand);
        int[] counts = {text.length(), texts.size(), has == null ? -1 : has.length(), right, wrong};
        return what < 0 || what > 4 ? -1 : counts[what];
    }

    private static void check(boolean fine) {
        if (!fine) {
            throw new IllegalStateException();
        }
    }

    private void skip() {
        rest = rest.replaceFirst("^[\t\n ]+", "");
    }

    private boolean take(String sign) {
        boolean there = rest.startsWith(sign);
        rest = there ? rest.substring(sign.length()) : rest;
        return there;
    }

    private String takeWord() {
        String word = rest.replaceFirst("(?s)[^A-Za-z0-9_].*$", "");
        rest = rest.substring(word.length());
        return word;
    }

    private static int within(int depth) {
        check(depth < 40);
        return depth + 1;
    }

    private long e(int depth, boolean needed) {
        skip();
        String start = rest;
        if (rest.matches("(?s)[A-Za-z_].*")) {
            String name = takeWord();
            skip();
            for (String sign : ASSIGNING) {
                if (!rest.startsWith("==") && take(sign)) {
                    long value = e(within(depth), needed);
                    return needed ? assign(name, sign.substring(0, sign.length() - 1), value) : 0;
                }
            }
        }
        rest = start;
        return c(depth, needed);
    }

    private long assign(String name, String sign, long value) {
        long all = sign.isEmpty() ? value : both(sign, valueOf(name), value);
        check(texts.size() < 64 || texts.containsKey(name));
        texts.put(name, Long.toString(all));
        return all;
    }

    private long c(int depth, boolean needed) {
        long test = b(0, depth, needed);
        skip();
        if (!take("?")) {
            return test;
        }
        long first = e(within(depth), needed && test != 0);
        skip();
        check(take(":"));
        long second = c(within(depth), needed && test == 0);
        return test != 0 ? first : second;
    }

    private long b(int rank, int depth, boolean needed) {
        if (rank == RANKS.size()) {
            return u(depth, needed);
        }
        long value = b(rank + 1, depth, needed);
        String sign = sign();
        while (RANKS.get(rank).contains(sign)) {
            take(sign);
            boolean open = needed && !(sign.equals("||") && value != 0) && !(sign.equals("&&") && value == 0);
            long second = b(rank + 1, depth, open);
            if (sign.equals("||") || sign.equals("&&")) {
                value = (open ? second : value) != 0 ? 1 : 0;
            } else {
                value = needed ? both(sign, value, second) : 0;
            }
            sign = sign();
        }
        return value;
    }

    private String sign() {
        skip();
        String longest = "";
        for (List<String> rank : RANKS) {
            for (String sign : rank) {
                longest = rest.startsWith(sign) && sign.length() > longest.length() ? sign : longest;
            }
        }
        boolean assigns = NOT_AHEAD_OF_EQUALS.contains(longest) && rest.startsWith(longest + "=");
        return assigns ? "" : longest;
    }

    private long u(int depth, boolean needed) {
        skip();
        if (take("+")) {
            return u(within(depth), needed);
        }
        if (take("-")) {
            return BigInteger.valueOf(u(within(depth), needed)).negate().longValue();
        }
        if (take("!")) {
            return u(within(depth), needed) != 0 ? 0 : 1;
        }
        if (take("~")) {
            return -1 - u(within(depth), needed);
        }
        if (take("(")) {
            long value = e(within(depth), needed);
            skip();
            check(take(")"));
            return value;
        }
        String word = takeWord();
        check(!word.isEmpty());
        if (Character.isDigit(word.charAt(0))) {
            return number(word);
        }
        return needed ? valueOf(word) : 0;
    }

    private long valueOf(String name) {
        String has = texts.getOrDefault(name, "");
        if (has.isEmpty()) {
            return 0;
        }
        return has.startsWith("-") ? BigInteger.valueOf(number(has.substring(1))).negate().longValue() : number(has);
    }

    private static long number(String word) {
        if (word.matches("0[xX][0-9a-fA-F]+")) {
            return new BigInteger(word.substring(2), 16).longValue();
        }
        if (word.matches("0[0-7]*")) {
            return new BigInteger(word, 8).longValue();
        }
        check(word.matches("[1-9][0-9]*"));
        return new BigInteger(word).longValue();
    }

    private static long both(String sign, long first, long second) {
        BigInteger one = BigInteger.valueOf(first);
        BigInteger two = BigInteger.valueOf(second);
        int shift = two.and(BigInteger.valueOf(63)).intValue();
        int compared = one.compareTo(two);
        switch (sign) {
            case "|":
                return one.or(two).longValue();
            case "^":
                return one.xor(two).longValue();
            case "&":
                return one.and(two).longValue();
            case "==":
                return compared == 0 ? 1 : 0;
            case "!=":
                return compared != 0 ? 1 : 0;
            case "<":
                return compared < 0 ? 1 : 0;
            case "<=":
                return compared <= 0 ? 1 : 0;
            case ">":
                return compared > 0 ? 1 : 0;
            case ">=":
                return compared >= 0 ? 1 : 0;
            case "<<":
                return one.shiftLeft(shift).longValue();
            case ">>":
                return one.shiftRight(shift).longValue();
            case "+":
                return one.add(two).longValue();
            case "-":
                return one.subtract(two).longValue();
            case "*":
                return one.multiply(two).longValue();
            case "/":
                check(second != 0);
                return one.divide(two).longValue();
            default:
                check(second != 0);
                return one.remainder(two).longValue();
        }
    }
}
