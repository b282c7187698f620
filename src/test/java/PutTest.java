/** Promise 5: put. */
public final class PutTest {
    public static void main(String[] args) {
        texts();
        refused();
        names64();
        Calls.end();
    }

    private static void texts() {
        ShellSum sum = new ShellSum();
        String[] texts = {"12345678", "-1", "", "a+b", "\t\n ~", "0x1F", "  "};
        for (String text : texts) {
            Calls.due("put of " + text, Calls.put(sum, "b", text), true);
            Calls.dueText(sum, "b", text);
            Calls.due("names with a text", sum.count(1), 1);
        }
        Calls.due("higher bytes are none of it", sum.put(0xFFFFFF0000003435L, 2), true);
        Calls.dueText(sum, "b", "45");
        Calls.due("put of nothing", sum.put(-1L, 0), true);
        Calls.dueText(sum, "b", "");
        Calls.due("a put behind an assignment", Calls.answer(sum, "b=-1234567890123"), -1234567890123L);
        Calls.put(sum, "b", "6");
        Calls.dueText(sum, "b", "6");
    }

    private static void refused() {
        ShellSum sum = new ShellSum();
        int[] counts = {-1, 9, 64, Integer.MIN_VALUE, Integer.MAX_VALUE};
        for (int n : counts) {
            Calls.due("put(.., " + n + ")", sum.put(Calls.pack("11111111"), n), false);
            Calls.due("names with a text", sum.count(1), 0);
        }
        Calls.put(sum, "b", "34");
        for (int n : counts) {
            Calls.due("put(.., " + n + ")", sum.put(Calls.pack("11111111"), n), false);
            Calls.dueText(sum, "b", "34");
        }
        for (int c = 0; c < 256; c++) {
            boolean fits = c == 9 || c == 10 || c >= 32 && c <= 126;
            Calls.put(sum, "b", "34");
            Calls.due("put of 5, character " + c, sum.put('5' << 8 | c, 2), fits);
            Calls.dueText(sum, "b", fits ? "5" + (char) c : "34");
        }
    }

    private static void names64() {
        ShellSum sum = new ShellSum();
        Calls.fill(sum, 64);
        Calls.due("put of a 65th", Calls.put(sum, "x", "1"), false);
        Calls.due("put of a 65th, empty", Calls.put(sum, "x", ""), false);
        Calls.due("names with a text", sum.count(1), 64);
        Calls.dueText(sum, "x", null);
        Calls.due("put of one of 64", Calls.put(sum, "n63", "8"), true);
        Calls.dueText(sum, "n63", "8");
        Calls.due("put of one of 64, empty", Calls.put(sum, "n0", ""), true);
        Calls.due("65th with an empty one among 64", Calls.put(sum, "x", "1"), false);
        Calls.name(sum, "n5");
        sum.drop();
        Calls.due("put of a 64th", Calls.put(sum, "x", "1"), true);
        Calls.due("put of a 65th", Calls.put(sum, "n5", "1"), false);
        for (int i = 6; i < 63; i++) {
            Calls.dueText(sum, "n" + i, "" + i);
        }
    }
}
