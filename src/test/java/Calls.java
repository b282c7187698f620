/** What the tests share: calls of a ShellSum with texts as Strings, and the count of wrong answers. */
final class Calls {
    /** What answer and valueOf give for a text that has an error. */
    static final String ERROR = "IllegalStateException";

    private static int wrong = 0;

    private Calls() {
    }

    static void due(String call, Object got, Object want) {
        if (!got.equals(want)) {
            wrong++;
            System.out.println(call + " answered " + got + ", due is " + want);
        }
    }

    /** The characters of a text of at most eight, as the calls take them. */
    static long pack(String chars) {
        long packed = 0;
        for (int i = 0; i < chars.length(); i++) {
            packed = packed << 8 | chars.charAt(i);
        }
        return packed;
    }

    static int type(ShellSum sum, String text) {
        int length = sum.count(0);
        for (int i = 0; i < text.length(); i += 8) {
            String part = text.substring(i, Math.min(i + 8, text.length()));
            length = sum.text(pack(part), part.length());
        }
        return length;
    }

    static Object value(ShellSum sum) {
        try {
            return sum.value();
        } catch (IllegalStateException e) {
            return ERROR;
        }
    }

    static Object answer(ShellSum sum, String text) {
        due("length after " + text, type(sum, text), text.length());
        return value(sum);
    }

    static boolean name(ShellSum sum, String name) {
        return sum.name(pack(name), name.length());
    }

    static boolean put(ShellSum sum, String name, String text) {
        return name(sum, name) && sum.put(pack(text), text.length());
    }

    /** The text of a name, read letter by letter; null when it has none. The name is at hand then. */
    static String textOf(ShellSum sum, String name) {
        name(sum, name);
        int length = sum.count(2);
        if (length == ShellSum.NONE) {
            return null;
        }
        StringBuilder text = new StringBuilder();
        for (int i = 0; i < length; i++) {
            text.append((char) sum.letter(i));
        }
        return text.toString();
    }

    /** An object that holds something everywhere, for calls that must change nothing; dueInUse knows what. */
    static ShellSum inUse() {
        ShellSum sum = new ShellSum();
        answer(sum, "c=-5");
        answer(sum, "1");
        answer(sum, "1+");
        put(sum, "b", "34");
        type(sum, "12");
        return sum;
    }

    /** That an object holds what inUse gave it, told by each call that can tell something of it. */
    static void dueInUse(String call, ShellSum sum) {
        int[] counts = {2, 2, 2, 2, 1};
        for (int what = 0; what < counts.length; what++) {
            due("count(" + what + ") after " + call, sum.count(what), counts[what]);
        }
        int[] letters = {'3', '4', ShellSum.NONE};
        for (int i = 0; i < letters.length; i++) {
            due("letter(" + i + ") after " + call, sum.letter(i), letters[i]);
        }
        due("value() after " + call, value(sum), 12L);
        due("b after " + call, answer(sum, "b"), 34L);
        due("c after " + call, answer(sum, "c"), -5L);
        sum.put('7', 1);
        due("the name at hand after " + call, answer(sum, "b"), 7L);
    }

    static boolean isOfText(int c) {
        return c == 9 || c == 10 || c >= 32 && c <= 126;
    }

    static boolean startsName(int c) {
        return c >= 'a' && c <= 'z' || c >= 'A' && c <= 'Z' || c == '_';
    }

    static boolean isOfName(int c) {
        return startsName(c) || c >= '0' && c <= '9';
    }

    /** Eight characters that are the same but for one, in a long as the calls take them. */
    static long eightButOne(char most, int place, int one) {
        long shift = 8L * (7 - place);
        return pack(("" + most).repeat(8)) & ~(255L << shift) | (long) one << shift;
    }

    static void dueValue(String text, long want) {
        due("value of " + text, answer(new ShellSum(), text), want);
    }

    static void dueError(String text) {
        due("value of " + text, answer(new ShellSum(), text), ERROR);
    }

    static void dueText(ShellSum sum, String name, String want) {
        due("text of " + name, String.valueOf(textOf(sum, name)), String.valueOf(want));
    }

    /** Gives texts to as many names as may have one: n0, n1 and so on. */
    static void fill(ShellSum sum, int names) {
        for (int i = 0; i < names; i++) {
            due("put of n" + i, put(sum, "n" + i, "" + i), true);
        }
    }

    static void end() {
        System.out.println(wrong == 0 ? "all answers are as due" : wrong + " answers are not as due");
        if (wrong != 0) {
            System.exit(1);
        }
    }
}
