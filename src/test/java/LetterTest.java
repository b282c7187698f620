/** Promise 7: letter. */
public final class LetterTest {
    public static void main(String[] args) {
        ShellSum sum = new ShellSum();
        int[] outside = {-1, 0, 1, 7, 20, Integer.MIN_VALUE, Integer.MAX_VALUE};
        for (int i : outside) {
            Calls.due("letter(" + i + ") of no text", sum.letter(i), ShellSum.NONE);
        }
        sum.put(0, 0);
        for (int i : outside) {
            Calls.due("letter(" + i + ") of an empty text", sum.letter(i), ShellSum.NONE);
        }
        row(sum, "x\t\n ~!9Q");
        row(sum, "12");
        Calls.answer(sum, "a=-9223372036854775807-1");
        row(sum, Long.toString(Long.MIN_VALUE), false);
        Calls.answer(sum, "a=0");
        row(sum, "0", false);
        Calls.end();
    }

    private static void row(ShellSum sum, String text) {
        row(sum, text, true);
    }

    private static void row(ShellSum sum, String text, boolean put) {
        if (put) {
            sum.put(Calls.pack(text), text.length());
        }
        for (int i = 0; i < text.length(); i++) {
            Calls.due("letter(" + i + ") of " + text, sum.letter(i), (int) text.charAt(i));
        }
        int[] outside = {-1, text.length(), text.length() + 1, 20, 300, Integer.MIN_VALUE, Integer.MAX_VALUE};
        for (int i : outside) {
            Calls.due("letter(" + i + ") of " + text, sum.letter(i), ShellSum.NONE);
        }
    }
}
