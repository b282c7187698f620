/** Promise 6: drop. */
public final class DropTest {
    public static void main(String[] args) {
        ShellSum sum = new ShellSum();
        Calls.due("drop of none", sum.drop(), false);
        for (int i = 0; i < 5; i++) {
            Calls.put(sum, "v" + i, "" + i);
        }
        int[] order = {0, 4, 2, 3, 1};
        for (int i = 0; i < order.length; i++) {
            String name = "v" + order[i];
            Calls.name(sum, name);
            Calls.due("drop of " + name, sum.drop(), true);
            Calls.due("names left", sum.count(1), 4 - i);
            Calls.due("its length", sum.count(2), ShellSum.NONE);
            Calls.due("its first letter", sum.letter(0), ShellSum.NONE);
            Calls.due("drop of " + name + " again", sum.drop(), false);
            Calls.due("names left", sum.count(1), 4 - i);
            for (int j = i + 1; j < order.length; j++) {
                Calls.dueText(sum, "v" + order[j], "" + order[j]);
            }
        }
        Calls.put(sum, "e", "");
        Calls.due("drop of an empty text", sum.drop(), true);
        Calls.answer(sum, "q=5");
        Calls.name(sum, "q");
        Calls.due("drop of what a text gave", sum.drop(), true);
        Calls.due("q without a text", Calls.answer(sum, "q"), 0L);
        Calls.put(sum, "q", "4");
        Calls.due("q with one again", Calls.answer(sum, "q"), 4L);
        Calls.end();
    }
}
