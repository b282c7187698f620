/** Promise 7: letter. */
public final class LetterTest {
    public static void main(String[] args) {
        eachLetter();
        withoutText();
        emptyText();
        behindTheEnd();
        shorterThanBefore();
        Calls.end();
    }

    /** Promise 7: "The i-th character of its text", 0 being the first: a put's of 1 .. 8 characters, an assignment's of 1 .. 20. */
    private static void eachLetter() {
        for (int n = 1; n <= 8; n++) {
            ShellSum sum = new ShellSum();
            String text = "x\t\n ~!9Q".substring(8 - n);
            sum.put(Calls.pack(text), n);
            dueLetters(sum, text);
        }
        long[] values = {0, 7, -7, 1234567890123456789L, Long.MAX_VALUE, Long.MIN_VALUE};
        for (long value : values) {
            ShellSum sum = new ShellSum();
            Calls.answer(sum, "a=" + value);
            dueLetters(sum, Long.toString(value));
        }
    }

    /** Promise 7: "NONE when there is none": the name at hand has no text, or none any more. */
    private static void withoutText() {
        ShellSum sum = new ShellSum();
        dueLetters(sum, "");
        Calls.put(sum, "b", "123");
        Calls.name(sum, "c");
        dueLetters(sum, "");
        Calls.name(sum, "b");
        sum.drop();
        dueLetters(sum, "");
    }

    /** Promise 7: "NONE when there is none": its text is empty. */
    private static void emptyText() {
        ShellSum sum = new ShellSum();
        sum.put(0, 0);
        dueLetters(sum, "");
    }

    /** Promise 7: "NONE when there is none": i is below 0, or as large as the text is long. */
    private static void behindTheEnd() {
        ShellSum sum = new ShellSum();
        Calls.answer(sum, "a=-9223372036854775807-1");
        Calls.due("promise 7, letter(19) of 20", sum.letter(19), (int) '8');
        Calls.due("promise 7, letter(20) of 20", sum.letter(20), ShellSum.NONE);
        Calls.due("promise 7, letter(-1)", sum.letter(-1), ShellSum.NONE);
        sum.put('5', 1);
        Calls.due("promise 7, letter(0) of 1", sum.letter(0), (int) '5');
        Calls.due("promise 7, letter(1) of 1", sum.letter(1), ShellSum.NONE);
    }

    /** Promise 7: "NONE when there is none": nothing of a longer text that the name had before is left. */
    private static void shorterThanBefore() {
        ShellSum sum = new ShellSum();
        Calls.answer(sum, "a=-9223372036854775807-1");
        dueLetters(sum, Long.toString(Long.MIN_VALUE));
        sum.put(Calls.pack("12345678"), 8);
        dueLetters(sum, "12345678");
        Calls.answer(sum, "a=-5");
        dueLetters(sum, "-5");
        sum.put(0, 0);
        dueLetters(sum, "");
    }

    private static void dueLetters(ShellSum sum, String text) {
        int[] far = {Integer.MIN_VALUE, -300, -20, -8, 64, 255, 256, 300, 301, 65536, Integer.MAX_VALUE};
        for (int i = -2; i < 24; i++) {
            int want = i >= 0 && i < text.length() ? text.charAt(i) : ShellSum.NONE;
            Calls.due("promise 7, letter(" + i + ") of " + text, sum.letter(i), want);
        }
        for (int i : far) {
            Calls.due("promise 7, letter(" + i + ") of " + text, sum.letter(i), ShellSum.NONE);
        }
    }
}
