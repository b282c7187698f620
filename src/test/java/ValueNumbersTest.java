/** Promise 3, value: numbers, and the numbers that the texts of names are. */
public final class ValueNumbersTest {
    public static void main(String[] args) {
        numbers();
        wrongNumbers();
        namedNumbers();
        names();
        Calls.end();
    }

    private static void numbers() {
        Calls.dueValue("0", 0);
        Calls.dueValue("9", 9);
        Calls.dueValue("1234567890", 1234567890L);
        Calls.dueValue("9223372036854775807", Long.MAX_VALUE);
        Calls.dueValue("9223372036854775808", Long.MIN_VALUE);
        Calls.dueValue("18446744073709551615", -1);
        Calls.dueValue("18446744073709551616", 0);
        Calls.dueValue("18446744073709551623", 7);
        Calls.dueValue("00", 0);
        Calls.dueValue("017", 15);
        Calls.dueValue("01234567", 342391);
        Calls.dueValue("01777777777777777777777", -1);
        Calls.dueValue("02000000000000000000003", 3);
        Calls.dueValue("0x0", 0);
        Calls.dueValue("0X1f", 31);
        Calls.dueValue("0xaBcDeF", 0xabcdef);
        Calls.dueValue("0x0123456789", 0x123456789L);
        Calls.dueValue("0xFFFFFFFFFFFFFFFF", -1);
        Calls.dueValue("0x10000000000000005", 5);
        Calls.dueValue("0x" + "0".repeat(297) + "7", 7);
        Calls.dueValue("1" + "0".repeat(64), 0);
    }

    private static void wrongNumbers() {
        String[] wrong = {"08", "09", "008", "0178", "0_1", "0a", "0b1", "0x", "0X", "0xg", "0x1g", "0x1_", "0x_1", "0xx1", "00x1",
            "1a", "1_000", "12x", "1x2", "9e5", "1_", "10a=3", "0x 1", "3L", "0xFz", "00X1"};
        for (String text : wrong) {
            Calls.dueError(text);
            Calls.dueError("0&&" + text);
            Calls.dueError("1||" + text);
            Calls.dueError("1?1:" + text);
            Calls.dueError("0?" + text + ":1");
        }
    }

    private static void namedNumbers() {
        dueNamed("5", 5);
        dueNamed("-5", -5);
        dueNamed("", 0);
        dueNamed("0", 0);
        dueNamed("-0", 0);
        dueNamed("010", 8);
        dueNamed("-010", -8);
        dueNamed("0x1F", 31);
        dueNamed("-0X1f", -31);
        dueNamed("99999999", 99999999);
        String[] wrong = {"-", "--5", "+5", " 5", "5 ", " ", "\n", "\t", "- 5", "08", "-08", "0x", "-0x", "1a", "b", "1+1", "x", "(1)",
            "5-", "~1", "_", "1_0", "0xg"};
        for (String text : wrong) {
            ShellSum sum = new ShellSum();
            Calls.put(sum, "x", text);
            Calls.due("x with the text " + text, Calls.answer(sum, "x"), Calls.ERROR);
            Calls.due("x not needed", Calls.answer(sum, "0&&x"), 0L);
            Calls.due("x that adds", Calls.answer(sum, "x+=1"), Calls.ERROR);
            Calls.dueText(sum, "x", text);
            Calls.due("x that gets a number", Calls.answer(sum, "x=1"), 1L);
            Calls.dueText(sum, "x", "1");
        }
        shorterThanBefore();
    }

    private static void dueNamed(String text, long want) {
        ShellSum sum = new ShellSum();
        Calls.put(sum, "x", text);
        Calls.due("x with the text " + text, Calls.answer(sum, "x"), want);
        Calls.due("-x with the text " + text, Calls.answer(sum, "-x"), -want);
        Calls.dueText(sum, "x", text);
    }

    private static void shorterThanBefore() {
        ShellSum sum = new ShellSum();
        Calls.put(sum, "x", "0x123456");
        Calls.put(sum, "x", "0");
        Calls.due("x with 0 over 0x123456", Calls.answer(sum, "x"), 0L);
        Calls.put(sum, "x", "-1234567");
        Calls.put(sum, "x", "-");
        Calls.due("x with - over -1234567", Calls.answer(sum, "x"), Calls.ERROR);
        Calls.put(sum, "x", "");
        Calls.due("x with nothing over it", Calls.answer(sum, "x"), 0L);
        Calls.type(sum, "123456789");
        Calls.value(sum);
        Calls.due("a text shorter than the one before", Calls.answer(sum, "12"), 12L);
    }

    private static void names() {
        ShellSum sum = new ShellSum();
        Calls.due("a name without a text", Calls.answer(sum, "nobody"), 0L);
        Calls.due("reading gives no text", sum.count(1), 0);
        String longName = "_a1".repeat(99);
        Calls.due("a long name", Calls.answer(sum, longName + "=7"), 7L);
        Calls.due("the long name", Calls.answer(sum, longName), 7L);
        Calls.due("a longer one", Calls.answer(sum, longName + "_"), 0L);
        Calls.due("a shorter one", Calls.answer(sum, longName.substring(1)), 0L);
        Calls.due("one that differs at its end", Calls.answer(sum, longName.substring(0, 296) + "2"), 0L);
        Calls.due("names with a text", sum.count(1), 1);
        Calls.due("a name of nine", Calls.answer(sum, "abcdefghi=3"), 3L);
        Calls.dueText(sum, "abcdefgh", null);
        Calls.due("upper and lower", Calls.answer(sum, "(k=1)*10+(K=2)+k*100"), 112L);
    }
}
