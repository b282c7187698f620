/** Promise 2: text. */
public final class TextTest {
    public static void main(String[] args) {
        order();
        wrongCounts();
        characters();
        longest();
        Calls.end();
    }

    private static void order() {
        ShellSum sum = new ShellSum();
        Calls.due("12", sum.text(Calls.pack("12"), 2), 2);
        Calls.due("-3", sum.text(Calls.pack("-3"), 2), 4);
        Calls.due("nothing", sum.text(Calls.pack("99"), 0), 4);
        Calls.due("12-3", Calls.value(sum), 9L);
        Calls.due("first after value()", sum.text(Calls.pack("8"), 1), 1);
        Calls.due("eight at once", sum.text(Calls.pack("+1234567"), 8), 9);
        Calls.due("8+1234567", Calls.value(sum), 1234575L);
        Calls.due("higher bytes are none of it", sum.text(0xFF00FF0000FF3435L, 2), 2);
        Calls.due("45", Calls.value(sum), 45L);
    }

    private static void wrongCounts() {
        ShellSum sum = new ShellSum();
        sum.text(Calls.pack("5"), 1);
        int[] counts = {-1, 9, 16, -8, Integer.MIN_VALUE, Integer.MAX_VALUE};
        for (int n : counts) {
            Calls.due("text(.., " + n + ")", sum.text(Calls.pack("11111111"), n), ShellSum.NONE);
            Calls.due("length after text(.., " + n + ")", sum.count(0), 1);
        }
        Calls.due("5", Calls.value(sum), 5L);
    }

    private static void characters() {
        ShellSum sum = new ShellSum();
        for (int c = 0; c < 256; c++) {
            boolean fits = c == 9 || c == 10 || c >= 32 && c <= 126;
            int before = sum.count(0);
            int after = fits ? before + 1 : before;
            Calls.due("text of character " + c, sum.text(c, 1), fits ? after : ShellSum.NONE);
            Calls.due("length after character " + c, sum.count(0), after);
        }
        for (int i = 0; i < 8; i++) {
            int before = sum.count(0);
            long chars = Calls.pack("11111111") & ~(255L << 8 * i);
            Calls.due("a character 0 as byte " + i, sum.text(chars, 8), ShellSum.NONE);
            Calls.due("length after it", sum.count(0), before);
        }
    }

    private static void longest() {
        ShellSum sum = new ShellSum();
        Calls.due("296", Calls.type(sum, "1".repeat(296)), 296);
        Calls.due("296 and 5", sum.text(Calls.pack("22222"), 5), ShellSum.NONE);
        Calls.due("296 and 8", sum.text(Calls.pack("22222222"), 8), ShellSum.NONE);
        Calls.due("296 still", sum.count(0), 296);
        Calls.due("296 and 4", sum.text(Calls.pack("   -"), 4), 300);
        Calls.due("300 and 1", sum.text(Calls.pack("1"), 1), ShellSum.NONE);
        Calls.due("300 and 0", sum.text(0, 0), 300);
        Calls.due("a text of 300 with an error", Calls.value(sum), Calls.ERROR);
        Calls.due("a text of 300", Calls.answer(sum, " ".repeat(299) + "7"), 7L);
    }
}
