/** What the tests share: calls of a ShellSum with texts as Strings, and the count of wrong answers. */
final class Calls {
    /** What answer and valueOf give for a text that has an error. */
    static final String ERROR = "IllegalStateException";

    private static int wrong = 0;

    private Calls() {
    }

    static void due(String call, Object got, Object want) {
        if (!got.equals(want)) {
            wrong++;
            System.out.println(call + " answered " + got + ", due is " + want);
        }
    }

    /** The characters of a text of at most eight, as the calls take them. */
    static long pack(String chars) {
        long packed = 0;
        for (int i = 0; i < chars.length(); i++) {
            packed = packed << 8 | chars.charAt(i);
        }
        return packed;
    }

    static int type(ShellSum sum, String text) {
        int length = sum.count(0);
        for (int i = 0; i < text.length(); i += 8) {
            String part = text.substring(i, Math.min(i + 8, text.length()));
            length = sum.text(pack(part), part.length());
        }
        return length;
    }

    static Object value(ShellSum sum) {
        try {
            return sum.value();
        } catch (IllegalStateException e) {
            return ERROR;
        }
    }

    static Object answer(ShellSum sum, String text) {
        type(sum, text);
        return value(sum);
    }

    static boolean name(ShellSum sum, String name) {
        return sum.name(pack(name), name.length());
    }

    static boolean put(ShellSum sum, String name, String text) {
        return name(sum, name) && sum.put(pack(text), text.length());
    }

    /** The text of a name, read letter by letter; null when it has none. The name is at hand then. */
    static String textOf(ShellSum sum, String name) {
        name(sum, name);
        if (sum.count(2) == ShellSum.NONE) {
            return null;
        }
        StringBuilder text = new StringBuilder();
        for (int i = 0; sum.letter(i) != ShellSum.NONE; i++) {
            text.append((char) sum.letter(i));
        }
        return text.toString();
    }

    static void dueValue(String text, long want) {
        due("value of " + text, answer(new ShellSum(), text), want);
    }

    static void dueError(String text) {
        due("value of " + text, answer(new ShellSum(), text), ERROR);
    }

    static void dueText(ShellSum sum, String name, String want) {
        due("text of " + name, String.valueOf(textOf(sum, name)), String.valueOf(want));
    }

    /** Gives texts to as many names as may have one: n0, n1 and so on. */
    static void fill(ShellSum sum, int names) {
        for (int i = 0; i < names; i++) {
            due("put of n" + i, put(sum, "n" + i, "" + i), true);
        }
    }

    static void end() {
        System.out.println(wrong == 0 ? "all answers are as due" : wrong + " answers are not as due");
        if (wrong != 0) {
            System.exit(1);
        }
    }
}
