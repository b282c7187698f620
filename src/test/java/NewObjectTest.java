/** Promise 1: an empty text; no name has a text; the name at hand is a. */
public final class NewObjectTest {
    public static void main(String[] args) {
        ShellSum sum = new ShellSum();
        int[] counts = {0, 0, -1, 0, 0};
        for (int what = 0; what < counts.length; what++) {
            Calls.due("count(" + what + ") of a new one", sum.count(what), counts[what]);
        }
        Calls.due("letter(0) of a new one", sum.letter(0), ShellSum.NONE);
        Calls.due("drop() of a new one", sum.drop(), false);
        Calls.due("value() of a new one", Calls.value(sum), 0L);
        sum.put(Calls.pack("7"), 1);
        Calls.due("a, after put", Calls.answer(sum, "a"), 7L);
        Calls.due("drop() of a", sum.drop(), true);
        ShellSum other = new ShellSum();
        Calls.answer(other, "b=3");
        Calls.due("names of one when another got one", sum.count(1), 0);
        Calls.due("b of one when another got it", Calls.answer(sum, "b"), 0L);
        Calls.end();
    }
}
