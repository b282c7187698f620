/** Promise 3, terms: numbers. */
public final class ValueNumbersTest {
    public static void main(String[] args) {
        decimals();
        eights();
        sixteens();
        wholeWords();
        wrongNumbers();
        Calls.end();
    }

    /** Promise 3, terms: "NUMBERS: .. decimal digits", and "all goes round". */
    private static void decimals() {
        for (int i = 0; i < 10; i++) {
            Calls.dueValue("" + i, i);
            Calls.dueValue("1" + i, 10 + i);
        }
        Calls.dueValue("1234567890", 1234567890L);
        Calls.dueValue("9223372036854775807", Long.MAX_VALUE);
        Calls.dueValue("9223372036854775808", Long.MIN_VALUE);
        Calls.dueValue("18446744073709551615", -1);
        Calls.dueValue("18446744073709551616", 0);
        Calls.dueValue("18446744073709551623", 7);
        Calls.dueValue("1" + "0".repeat(64), 0);
        Calls.dueValue("1" + "0".repeat(299), 0);
    }

    /** Promise 3, terms: "0 and digits of eight". */
    private static void eights() {
        Calls.dueValue("0", 0);
        Calls.dueValue("00", 0);
        for (int i = 0; i < 8; i++) {
            Calls.dueValue("0" + i, i);
            Calls.dueValue("01" + i, 8 + i);
        }
        Calls.dueValue("01234567", 342391);
        Calls.dueValue("0777777777777777777777", Long.MAX_VALUE);
        Calls.dueValue("01000000000000000000000", Long.MIN_VALUE);
        Calls.dueValue("01777777777777777777777", -1);
        Calls.dueValue("02000000000000000000003", 3);
        Calls.dueValue("0".repeat(299) + "7", 7);
        String[] wrong = {"08", "09", "008", "0018", "0178", "0187", "0a", "0_", "0_1", "00x1", "00X1", "0".repeat(297) + "8"};
        for (String text : wrong) {
            dueNoNumber(text);
        }
    }

    /** Promise 3, terms: "0x or 0X and at least one digit of sixteen". */
    private static void sixteens() {
        String digits = "0123456789abcdef";
        for (int i = 0; i < 16; i++) {
            Calls.dueValue("0x" + digits.charAt(i), i);
            Calls.dueValue("0X1" + Character.toUpperCase(digits.charAt(i)), 16 + i);
        }
        Calls.dueValue("0xaBcDeF", 0xabcdef);
        Calls.dueValue("0x0123456789", 0x123456789L);
        Calls.dueValue("0x7FFFFFFFFFFFFFFF", Long.MAX_VALUE);
        Calls.dueValue("0x8000000000000000", Long.MIN_VALUE);
        Calls.dueValue("0xFFFFFFFFFFFFFFFF", -1);
        Calls.dueValue("0x10000000000000005", 5);
        Calls.dueValue("0x" + "0".repeat(297) + "7", 7);
        Calls.dueValue("0X00", 0);
        String[] wrong = {"0x", "0X", "0xg", "0xG", "0x1g", "0xFz", "0x1_", "0x_1", "0x_", "0xx1", "0xX1", "0x0x1", "1x2", "10x2"};
        for (String text : wrong) {
            dueNoNumber(text);
        }
    }

    /** Promise 3, terms: "from a digit on all letters, digits, _": a number ends behind them all, and nowhere ahead. */
    private static void wholeWords() {
        for (char c = 32; c < 127; c++) {
            if (Calls.isOfName(c) && (c < '0' || c > '9')) {
                dueNoNumber("1" + c);
                dueNoNumber("1" + c + "2");
            }
        }
        String[] wrong = {"1a", "1_000", "12x", "9e5", "1_", "3L", "5b", "1a1", "10a"};
        for (String text : wrong) {
            dueNoNumber(text);
        }
        Calls.dueError("10a=3");
        Calls.dueError("1b=3");
    }

    /** Promise 3, terms: "the rest must be right as text (numbers, too)". */
    private static void wrongNumbers() {
        String[] wrong = {"08", "09", "0178", "0_1", "0x", "0X", "0xg", "0x1g", "1a", "1_"};
        for (String text : wrong) {
            Calls.dueError("0&&" + text);
            Calls.dueError("1||" + text);
            Calls.dueError("1?1:" + text);
            Calls.dueError("0?" + text + ":1");
        }
    }

    /** An error, before the assignment ends: were it a number with something behind, b would have got it. */
    private static void dueNoNumber(String text) {
        Calls.dueError(text);
        Calls.dueError("1+" + text);
        ShellSum sum = new ShellSum();
        Calls.answer(sum, "b=" + text);
        Calls.due("promise 3, names with a text after b=" + text, sum.count(1), 0);
    }
}
