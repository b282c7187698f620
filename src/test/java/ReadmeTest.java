/** What README.md shows of the class's use answers what it says there. */
public final class ReadmeTest {
    public static void main(String[] args) {
        example();
        choicesLeft();
        Calls.end();
    }

    /** The example under "Use". */
    private static void example() {
        ShellSum sum = new ShellSum();
        Calls.due("README, name of b", sum.name('b', 1), true);
        Calls.due("README, put of 42", sum.put('4' << 8 | '2', 2), true);
        Calls.due("README, text of b+", sum.text('b' << 8 | '+', 2), 2);
        Calls.due("README, text of 1", sum.text('1', 1), 3);
        Calls.due("README, value", Calls.value(sum), 43L);
        Calls.due("README, the first letter", sum.letter(0), (int) '4');
        Calls.due("README, names with a text", sum.count(1), 1);
        Calls.due("README, drop", sum.drop(), true);
        Calls.due("README, drop again", sum.drop(), false);
    }

    /** The texts under "Where the document leaves a choice". */
    private static void choicesLeft() {
        ShellSum sum = new ShellSum();
        Calls.due("README, a=1 $", Calls.answer(sum, "a=1 $"), Calls.ERROR);
        Calls.dueText(sum, "a", "1");
        Calls.due("README, a+=(a=5)", Calls.answer(sum, "a+=(a=5)"), 10L);
    }
}
