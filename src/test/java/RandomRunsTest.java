import java.util.Random;

/** Promises 1 to 8: runs of 512 calls, always the same ones, each answer compared with PlainSum's. */
public final class RandomRunsTest {
    private static final int RUNS = 1500;
    private static final String[] NAMES = {"a", "b", "c", "x1", "_", "Bad", "abcdefghij", "n0", "n1", "n2"};
    private static final String[] NUMBERS = {"0", "1", "2", "3", "7", "63", "64", "010", "0x1F", "0XfF", "9223372036854775807",
        "9223372036854775808", "18446744073709551617", "0xFFFFFFFFFFFFFFFF", "100000"};
    private static final String[] WRONG_NUMBERS = {"08", "0x", "1a", "0xg", "9_"};
    private static final String[] TWO = {"||", "&&", "|", "^", "&", "==", "!=", "<", "<=", ">", ">=", "<<", ">>", "+", "-", "*", "/", "%"};
    private static final String[] ASSIGNING = {"=", "*=", "/=", "%=", "+=", "-=", "<<=", ">>=", "&=", "^=", "|="};
    private static final String[] OTHERS = {"(", ")", "?", ":", "!", "~", "=", "$", " ", "\t", "\n"};
    private static final String[] TEXTS = {"", "0", "1", "-1", "42", "-0x1f", "017", "08", "x", " 1", "-", "12345678", "a+b"};

    private final Random random;
    private final ShellSum sum = new ShellSum();
    private final PlainSum plain = new PlainSum();
    private int calls = 0;

    private RandomRunsTest(long seed) {
        random = new Random(seed);
    }

    public static void main(String[] args) {
        int right = 0;
        int wrong = 0;
        for (int seed = 0; seed < RUNS; seed++) {
            RandomRunsTest run = new RandomRunsTest(seed);
            run.play(seed % 5 == 0);
            right += run.plain.right;
            wrong += run.plain.wrong;
        }
        System.out.println(right + " texts without an error, " + wrong + " with one");
        Calls.due("texts enough of both kinds", right > 10000 && wrong > 10000, true);
        Calls.end();
    }

    private void play(boolean manyNames) {
        for (int i = 0; manyNames && i < 64 - random.nextInt(4); i++) {
            doName("n" + i);
            doPut("" + i);
        }
        while (calls < 440) {
            switch (random.nextInt(8)) {
                case 0:
                    doName(random.nextInt(5) == 0 ? soup(2) : pick(NAMES));
                    break;
                case 1:
                    doPut(random.nextInt(5) == 0 ? characters() : pick(TEXTS));
                    break;
                case 2:
                    if (random.nextInt(3) == 0) {
                        doDrop();
                    }
                    break;
                case 3:
                    doType(characters());
                    break;
                default:
                    reckon();
            }
        }
    }

    private void reckon() {
        String text = random.nextInt(6) == 0 ? soup(1 + random.nextInt(12)) : e(random.nextInt(5));
        if (random.nextInt(4) == 0) {
            text = spoilt(text);
        }
        if (random.nextInt(20) == 0) {
            text = deep();
        }
        for (int i = 0; i < text.length() && calls < 490; i += 8) {
            doType(text.substring(i, Math.min(i + 8, text.length())));
        }
        calls++;
        Calls.due("value of " + plain.text, Calls.value(sum), plain.value());
        look();
    }

    private void look() {
        for (int what = -1; what < 6 && calls < 505; what += 1 + random.nextInt(2)) {
            calls++;
            Calls.due("count(" + what + ")", sum.count(what), plain.count(what));
        }
        doName(pick(NAMES));
        for (int i = -1; i < 20 && calls < 505; i += 1 + random.nextInt(6)) {
            calls++;
            Calls.due("letter(" + i + ")", sum.letter(i), plain.letter(i));
        }
    }

    private void doType(String chars) {
        calls++;
        Calls.due("text of " + chars, sum.text(Calls.pack(chars), chars.length()), plain.text(chars));
    }

    private void doName(String chars) {
        calls++;
        Calls.due("name of " + chars, sum.name(Calls.pack(chars), chars.length()), plain.name(chars));
    }

    private void doPut(String chars) {
        calls++;
        Calls.due("put of " + chars, sum.put(Calls.pack(chars), chars.length()), plain.put(chars));
    }

    private void doDrop() {
        calls++;
        Calls.due("drop", sum.drop(), plain.drop());
    }

    private String pick(String[] from) {
        return from[random.nextInt(from.length)];
    }

    private String characters() {
        StringBuilder text = new StringBuilder();
        for (int i = random.nextInt(10); i > 0; i--) {
            text.append((char) (random.nextInt(30) == 0 ? random.nextInt(256) : 32 + random.nextInt(95)));
        }
        return text.toString();
    }

    private String soup(int parts) {
        StringBuilder text = new StringBuilder();
        for (int i = 0; i < parts; i++) {
            String[][] kinds = {NAMES, NUMBERS, TWO, ASSIGNING, OTHERS, WRONG_NUMBERS};
            text.append(pick(kinds[random.nextInt(kinds.length)]));
        }
        return text.toString();
    }

    private String spoilt(String text) {
        int at = random.nextInt(text.length() + 1);
        int to = Math.min(text.length(), at + random.nextInt(3));
        return text.substring(0, at) + (random.nextBoolean() ? soup(1) : "") + text.substring(to);
    }

    private String blank() {
        return random.nextInt(6) == 0 ? pick(new String[] {" ", "\t", "\n", "  "}) : "";
    }

    private String e(int size) {
        if (random.nextInt(4) == 0) {
            return blank() + pick(NAMES) + blank() + pick(ASSIGNING) + e(size - 1);
        }
        return c(size);
    }

    private String c(int size) {
        if (size > 0 && random.nextInt(4) == 0) {
            return b(size - 1) + blank() + "?" + e(size - 1) + blank() + ":" + c(size - 1);
        }
        return b(size);
    }

    private String b(int size) {
        StringBuilder text = new StringBuilder(u(size));
        for (int i = random.nextInt(size > 0 ? 4 : 2); i > 0; i--) {
            text.append(blank()).append(pick(TWO)).append(u(size - 1));
        }
        return text.toString();
    }

    private String u(int size) {
        if (random.nextInt(5) == 0) {
            return blank() + "+-!~".charAt(random.nextInt(4)) + u(size);
        }
        if (size > 0 && random.nextInt(3) == 0) {
            return blank() + "(" + e(size - 1) + blank() + ")";
        }
        return blank() + (random.nextInt(2) == 0 ? pick(NAMES) : pick(NUMBERS));
    }

    /** A text with about as much within one another as may be. */
    private String deep() {
        StringBuilder text = new StringBuilder(pick(NAMES));
        for (int i = 37 + random.nextInt(6); i > 0; i--) {
            switch (random.nextInt(5)) {
                case 0:
                    text.insert(0, '(').append(')');
                    break;
                case 1:
                    text.insert(0, "a=").insert(0, '(').append(')');
                    i--;
                    break;
                case 2:
                    text.insert(0, "b?").append(":1").insert(0, '(').append(')');
                    i--;
                    break;
                case 3:
                    text.insert(0, "b?1:(").append(')').insert(0, '(').append(')');
                    i -= 2;
                    break;
                default:
                    text.insert(0, "-(").append(')');
                    i--;
            }
        }
        return text.toString();
    }
}
