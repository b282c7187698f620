/** Promise 6: drop. */
public final class DropTest {
    public static void main(String[] args) {
        whetherItHad();
        noTextAnyMore();
        othersKeepTheirs();
        ofSixtyFour();
        Calls.end();
    }

    /** Promise 6: "whether it had": none, an empty text, one of 8, one of 20, one that is gone. */
    private static void whetherItHad() {
        ShellSum sum = new ShellSum();
        Calls.due("promise 6, drop of none", sum.drop(), false);
        Calls.due("promise 6, names after it", sum.count(1), 0);
        String[] texts = {"", "1", "x+y z=12"};
        for (String text : texts) {
            Calls.put(sum, "b", text);
            Calls.due("promise 6, drop of the text " + text, sum.drop(), true);
            Calls.due("promise 6, drop again", sum.drop(), false);
        }
        Calls.answer(sum, "b=-9223372036854775807-1");
        Calls.due("promise 6, drop of an assignment's text", sum.drop(), true);
        Calls.due("promise 6, drop of it again", sum.drop(), false);
        Calls.answer(sum, "0&&(b=1)");
        Calls.due("promise 6, drop after what was not needed", sum.drop(), false);
    }

    /** Promise 6: "The name at hand has no text any more"; it stays at hand, and may get one again. */
    private static void noTextAnyMore() {
        ShellSum sum = new ShellSum();
        Calls.put(sum, "b", "12345678");
        sum.drop();
        Calls.due("promise 6, names with a text", sum.count(1), 0);
        Calls.due("promise 6, the length of its text", sum.count(2), ShellSum.NONE);
        Calls.due("promise 6, a letter of its text", sum.letter(0), ShellSum.NONE);
        Calls.due("promise 6, its value", Calls.answer(sum, "b"), 0L);
        sum.put('4', 1);
        Calls.dueText(sum, "b", "4");
        sum.drop();
        Calls.due("promise 6, what it gets added", Calls.answer(sum, "b+=3"), 3L);
        Calls.dueText(sum, "b", "3");
    }

    /** Promise 6: "The name at hand" alone, whichever of several it is. */
    private static void othersKeepTheirs() {
        ShellSum sum = new ShellSum();
        for (int i = 0; i < 5; i++) {
            Calls.put(sum, "v" + i, "" + i);
        }
        int[] order = {0, 4, 2, 3, 1};
        for (int i = 0; i < order.length; i++) {
            Calls.name(sum, "v" + order[i]);
            Calls.due("promise 6, drop of v" + order[i], sum.drop(), true);
            Calls.due("promise 6, drop of it again", sum.drop(), false);
            Calls.due("promise 6, names left", sum.count(1), 4 - i);
            for (int j = 0; j < order.length; j++) {
                Calls.dueText(sum, "v" + order[j], j <= i ? null : "" + order[j]);
            }
        }
    }

    /** Promise 6: "has no text any more", so that of 64 names one more may have one. */
    private static void ofSixtyFour() {
        ShellSum sum = new ShellSum();
        Calls.fill(sum, 64);
        int[] dropped = {63, 0, 31};
        for (int i = 0; i < dropped.length; i++) {
            Calls.name(sum, "x" + i);
            Calls.due("promise 6, drop of a name without", sum.drop(), false);
            Calls.due("promise 6, names with a text", sum.count(1), 64);
            Calls.name(sum, "n" + dropped[i]);
            Calls.due("promise 6, drop of n" + dropped[i], sum.drop(), true);
            Calls.due("promise 6, names with a text", sum.count(1), 63);
            Calls.due("promise 6, x" + i + " gets one", Calls.answer(sum, "x" + i + "=" + i), (long) i);
            Calls.due("promise 6, n" + dropped[i] + " gets none", Calls.answer(sum, "n" + dropped[i] + "=1"), Calls.ERROR);
        }
        for (int i = 1; i < 63; i++) {
            Calls.dueText(sum, "n" + i, i == 31 ? null : "" + i);
        }
    }
}
