/** Promise 3, terms: names in texts, and what their own texts come to. */
public final class ValueNamesTest {
    public static void main(String[] args) {
        characters();
        lengths();
        withoutText();
        emptyText();
        numbers();
        negativeNumbers();
        noNumbers();
        eachCharacter();
        shorterThanBefore();
        Calls.end();
    }

    /** Promise 3, terms: "NAMES: a letter or _, then letters, digits, _." */
    private static void characters() {
        for (char c = 33; c < 127; c++) {
            Object first = Calls.startsName(c) ? (Object) 6L : Calls.ERROR;
            Object later = Calls.isOfName(c) ? (Object) 6L : Calls.ERROR;
            Calls.due("promise 3, " + c + "x=6", Calls.answer(new ShellSum(), c + "x=6"), first);
            Calls.due("promise 3, x" + c + " =6", Calls.answer(new ShellSum(), "x" + c + " =6"), later);
            Calls.due("promise 3, x" + c + "y=6", Calls.answer(new ShellSum(), "x" + c + "y=6"), c == '=' ? (Object) 6L : later);
        }
    }

    /** Promise 3, terms: a name may be as long as the text has room for, and all its characters count. */
    private static void lengths() {
        for (int length : new int[] {1, 8, 9, 20, 21, 64, 297, 298}) {
            ShellSum sum = new ShellSum();
            String name = "_a1".repeat(100).substring(0, length);
            Calls.due("promise 3, a name of " + length, Calls.answer(sum, name + "=7"), 7L);
            Calls.due("promise 3, its value", Calls.answer(sum, name), 7L);
            Calls.due("promise 3, a longer one's", Calls.answer(sum, name + "_"), 0L);
            Calls.due("promise 3, one's that differs at its end", Calls.answer(sum, name.substring(0, length - 1) + "Z"), 0L);
            Calls.due("promise 3, one's that differs at its begin", Calls.answer(sum, "Z" + name.substring(1)), 0L);
            Calls.due("promise 3, names with a text", sum.count(1), 1);
        }
        ShellSum sum = new ShellSum();
        Calls.due("promise 3, a name of 300", Calls.answer(sum, "z".repeat(300)), 0L);
        Calls.due("promise 3, a name of nine", Calls.answer(sum, "abcdefghi=3"), 3L);
        Calls.dueText(sum, "abcdefgh", null);
        Calls.due("promise 3, upper and lower", Calls.answer(sum, "(k=1)*10+(K=2)+k*100"), 112L);
    }

    /** Promise 3, terms: "A name comes to 0 if it has none". */
    private static void withoutText() {
        ShellSum sum = new ShellSum();
        Calls.due("promise 3, a name without a text", Calls.answer(sum, "nobody"), 0L);
        Calls.due("promise 3, it adds", Calls.answer(sum, "nobody+5"), 5L);
        Calls.due("promise 3, reading gives no text", sum.count(1), 0);
        Calls.put(sum, "b", "5");
        sum.drop();
        Calls.due("promise 3, a name that had one", Calls.answer(sum, "b"), 0L);
    }

    /** Promise 3, terms: "A name comes to 0 if it has .. an empty text". */
    private static void emptyText() {
        dueNamed("", 0);
        ShellSum sum = new ShellSum();
        Calls.put(sum, "b", "");
        Calls.due("promise 3, an empty text adds", Calls.answer(sum, "b+5"), 5L);
        Calls.due("promise 3, an empty text divides", Calls.answer(sum, "5/b"), Calls.ERROR);
        Calls.due("promise 3, an empty text gets more", Calls.answer(sum, "b-=5"), -5L);
    }

    /** Promise 3, terms: "else to the number that its text is". */
    private static void numbers() {
        dueNamed("0", 0);
        dueNamed("5", 5);
        dueNamed("99999999", 99999999);
        dueNamed("010", 8);
        dueNamed("00000007", 7);
        dueNamed("0x1F", 31);
        dueNamed("0XffFFfF", 0xffffff);
        dueNamed("0x0", 0);
        ShellSum sum = new ShellSum();
        long[] values = {Long.MAX_VALUE, Long.MIN_VALUE, -1};
        for (long value : values) {
            Calls.answer(sum, "b=" + value);
            Calls.due("promise 3, b that has " + value, Calls.answer(sum, "b"), value);
        }
    }

    /** Promise 3, terms: "perhaps with - ahead". */
    private static void negativeNumbers() {
        dueNamed("-5", -5);
        dueNamed("-0", 0);
        dueNamed("-9999999", -9999999);
        dueNamed("-010", -8);
        dueNamed("-0X1f", -31);
        ShellSum sum = new ShellSum();
        Calls.put(sum, "b", "-3");
        Calls.due("promise 3, a value below 0 is one", Calls.answer(sum, "2-b*b"), -7L);
    }

    /** Promise 3, terms: "ERRORS: .. a name whose text is no number". */
    private static void noNumbers() {
        String[] wrong = {"-", "--5", "+5", "+", " 5", "5 ", " ", "\n", "\t", "- 5", "-5 ", " -5", "5-", "08", "-08", "0x", "-0x", "0xg", "1a", "1_0", "_",
            "b", "x", "-x", "1+1", "(1)", "~1", "!0", "0 0", "1\n", "5=", "x=5", "1.5", "$"};
        for (String text : wrong) {
            ShellSum sum = new ShellSum();
            Calls.put(sum, "x", text);
            Calls.due("promise 3, x with the text " + text, Calls.answer(sum, "x"), Calls.ERROR);
            Calls.due("promise 3, 0*x", Calls.answer(sum, "0*x"), Calls.ERROR);
            Calls.due("promise 3, x||1", Calls.answer(sum, "x||1"), Calls.ERROR);
            Calls.due("promise 3, x?1:1", Calls.answer(sum, "x?1:1"), Calls.ERROR);
            Calls.due("promise 3, x+=1", Calls.answer(sum, "x+=1"), Calls.ERROR);
            Calls.due("promise 3, x not needed", Calls.answer(sum, "0&&x"), 0L);
            Calls.dueText(sum, "x", text);
            Calls.due("promise 3, x=1", Calls.answer(sum, "x=1"), 1L);
            Calls.dueText(sum, "x", "1");
        }
    }

    /** Promise 3, terms: "a name whose text is no number": each character of a text, as a digit of each kind of number. */
    private static void eachCharacter() {
        for (int c = 0; c < 127; c++) {
            if (Calls.isOfText(c)) {
                dueDigit("", c, 10);
                dueDigit("-", c, 10);
                dueDigit("1", c, 10);
                dueDigit("-1", c, 10);
                dueDigit("0", c, 8);
                dueDigit("-01", c, 8);
                dueDigit("0x", c, 16);
                dueDigit("-0X1", c, 16);
            }
        }
    }

    private static void dueDigit(String ahead, int c, int base) {
        String text = ahead + (char) c;
        String digits = ahead.replaceAll("[-xX]", "") + (char) c;
        Object want = Character.digit(c, base) < 0 ? (Object) Calls.ERROR : (Object) Long.parseLong(digits, base);
        if (ahead.startsWith("-") && !want.equals(Calls.ERROR)) {
            want = -(Long) want;
        }
        ShellSum sum = new ShellSum();
        Calls.put(sum, "x", text);
        Calls.due("promise 3, x with the text " + text, Calls.answer(sum, "x"), want);
    }

    /** Promise 3, terms: "the number that its text is": nothing of a longer text that the name had before is left. */
    private static void shorterThanBefore() {
        ShellSum sum = new ShellSum();
        String[] texts = {"0x123456", "0", "-1234567", "-1", "12345678", "", "7"};
        long[] values = {0x123456, 0, -1234567, -1, 12345678, 0, 7};
        for (int i = 0; i < texts.length; i++) {
            Calls.put(sum, "x", texts[i]);
            Calls.due("promise 3, x with the text " + texts[i], Calls.answer(sum, "x"), values[i]);
        }
        Calls.put(sum, "x", "-1234567");
        Calls.put(sum, "x", "-");
        Calls.due("promise 3, x with - over -1234567", Calls.answer(sum, "x"), Calls.ERROR);
    }

    private static void dueNamed(String text, long want) {
        ShellSum sum = new ShellSum();
        Calls.put(sum, "x", text);
        Calls.due("promise 3, x with the text " + text, Calls.answer(sum, "x"), want);
        Calls.due("promise 3, -x with the text " + text, Calls.answer(sum, "-x"), -want);
        Calls.dueText(sum, "x", text);
    }
}
