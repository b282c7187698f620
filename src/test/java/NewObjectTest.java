/** Promise 1: a new object. */
public final class NewObjectTest {
    public static void main(String[] args) {
        emptyText();
        noNameHasAText();
        nameAtHand();
        nothingReckoned();
        apartFromOthers();
        Calls.end();
    }

    /** Promise 1: "An empty text". */
    private static void emptyText() {
        ShellSum sum = new ShellSum();
        Calls.due("promise 1, the length of the text", sum.count(0), 0);
        Calls.due("promise 1, the value of the text", Calls.value(sum), 0L);
        Calls.due("promise 1, the first text", new ShellSum().text('5', 1), 1);
        Calls.due("promise 1, the first text's value", Calls.answer(new ShellSum(), "5"), 5L);
    }

    /** Promise 1: "no name has a text". */
    private static void noNameHasAText() {
        ShellSum sum = new ShellSum();
        Calls.due("promise 1, names with a text", sum.count(1), 0);
        Calls.due("promise 1, the length of a's text", sum.count(2), ShellSum.NONE);
        Calls.due("promise 1, a letter of a's text", sum.letter(0), ShellSum.NONE);
        Calls.due("promise 1, drop of a", sum.drop(), false);
        Calls.due("promise 1, a, b, A and _", Calls.answer(sum, "a|b|A|_"), 0L);
        Calls.dueText(sum, "b", null);
        ShellSum full = new ShellSum();
        Calls.fill(full, 64);
        Calls.due("promise 1, room for 64 names", full.count(1), 64);
    }

    /** Promise 1: "the name at hand is a". */
    private static void nameAtHand() {
        ShellSum sum = new ShellSum();
        Calls.due("promise 1, put", sum.put('7', 1), true);
        Calls.due("promise 1, a after put", Calls.answer(sum, "a"), 7L);
        Calls.due("promise 1, drop", sum.drop(), true);
        Calls.due("promise 1, a after drop", Calls.answer(sum, "a"), 0L);
        Calls.answer(sum, "a=-8");
        Calls.due("promise 1, the length of a's text", sum.count(2), 2);
        Calls.due("promise 1, a letter of a's text", sum.letter(1), (int) '8');
    }

    /** Promises 1 and 8: a new object has reckoned no text, without an error or with one. */
    private static void nothingReckoned() {
        ShellSum sum = new ShellSum();
        Calls.due("promise 1, texts without an error", sum.count(3), 0);
        Calls.due("promise 1, texts with an error", sum.count(4), 0);
    }

    /** Promise 1: a new object is as new, whatever others hold. */
    private static void apartFromOthers() {
        ShellSum one = new ShellSum();
        ShellSum other = Calls.inUse();
        Calls.due("promise 1, names of one when another has some", one.count(1), 0);
        Calls.due("promise 1, text of one when another has some", one.count(0), 0);
        Calls.due("promise 1, b of one when another has it", Calls.answer(one, "b"), 0L);
        one.put('1', 1);
        Calls.answer(one, "b=1+(c=2)");
        Calls.dueInUse("calls of another object", other);
    }
}
