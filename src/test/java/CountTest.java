/** Promise 8: count. */
public final class CountTest {
    public static void main(String[] args) {
        ShellSum sum = new ShellSum();
        counts(sum, 0, 0, -1, 0, 0);
        Calls.type(sum, "1 + 1");
        counts(sum, 5, 0, -1, 0, 0);
        Calls.value(sum);
        counts(sum, 0, 0, -1, 1, 0);
        Calls.answer(sum, "1 +");
        counts(sum, 0, 0, -1, 1, 1);
        Calls.answer(sum, "bb = 123");
        counts(sum, 0, 1, -1, 2, 1);
        Calls.name(sum, "bb");
        counts(sum, 0, 1, 3, 2, 1);
        Calls.put(sum, "a", "");
        counts(sum, 0, 2, 0, 2, 1);
        Calls.answer(sum, " \t\n");
        counts(sum, 0, 2, 0, 3, 1);
        Calls.answer(sum, "a = -10 $");
        counts(sum, 0, 2, 3, 3, 2);
        Calls.answer(sum, "bb / 0");
        counts(sum, 0, 2, 3, 3, 3);
        sum.drop();
        counts(sum, 0, 1, -1, 3, 3);
        Calls.answer(sum, "a = bb = c = d = -9223372036854775808");
        counts(sum, 0, 4, 20, 4, 3);
        int[] others = {-1, 5, 6, 100, Integer.MIN_VALUE, Integer.MAX_VALUE};
        for (int what : others) {
            Calls.due("count(" + what + ")", sum.count(what), ShellSum.NONE);
        }
        Calls.end();
    }

    private static void counts(ShellSum sum, int... want) {
        for (int what = 0; what < want.length; what++) {
            Calls.due("count(" + what + ")", sum.count(what), want[what]);
        }
    }
}
