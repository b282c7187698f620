/** Promise 8: count. */
public final class CountTest {
    public static void main(String[] args) {
        lengthOfTheText();
        namesWithAText();
        lengthAtHand();
        withoutAnError();
        withAnError();
        others();
        changesNothing();
        Calls.end();
    }

    /** Promise 8: "what = 0 the length of the text": 0 .. 300, and 0 after value(). */
    private static void lengthOfTheText() {
        ShellSum sum = new ShellSum();
        Calls.due("promise 8, count(0) of none", sum.count(0), 0);
        for (int i = 1; i <= 37; i++) {
            sum.text(Calls.pack("      +1"), 8);
            Calls.due("promise 8, count(0)", sum.count(0), 8 * i);
        }
        sum.text(Calls.pack("11111"), 5);
        Calls.due("promise 8, count(0) after a text too long", sum.count(0), 296);
        sum.text(Calls.pack("   *"), 4);
        Calls.due("promise 8, count(0) of the longest", sum.count(0), 300);
        Calls.value(sum);
        Calls.due("promise 8, count(0) after an error", sum.count(0), 0);
        Calls.answer(sum, "1");
        Calls.due("promise 8, count(0) after a value", sum.count(0), 0);
    }

    /** Promise 8: "1 how many names have a text": 0 .. 64, an empty one, too, and each name once. */
    private static void namesWithAText() {
        ShellSum sum = new ShellSum();
        Calls.due("promise 8, count(1) of none", sum.count(1), 0);
        Calls.put(sum, "b", "");
        Calls.due("promise 8, count(1) with an empty text", sum.count(1), 1);
        Calls.put(sum, "b", "2");
        Calls.due("promise 8, count(1) with another text", sum.count(1), 1);
        Calls.answer(sum, "b=c=b");
        Calls.due("promise 8, count(1) with an assignment's", sum.count(1), 2);
        Calls.answer(sum, "d+e");
        Calls.due("promise 8, count(1) after reading others", sum.count(1), 2);
        sum.drop();
        Calls.due("promise 8, count(1) after drop", sum.count(1), 1);
        sum.drop();
        Calls.due("promise 8, count(1) after drop again", sum.count(1), 1);
        Calls.fill(sum, 63);
        Calls.due("promise 8, count(1) at most", sum.count(1), 64);
        Calls.put(sum, "x", "1");
        Calls.answer(sum, "x=1");
        Calls.due("promise 8, count(1) after a 65th", sum.count(1), 64);
    }

    /** Promise 8: "2 the length of that of the name at hand (NONE without)": an empty one has 0. */
    private static void lengthAtHand() {
        ShellSum sum = new ShellSum();
        Calls.due("promise 8, count(2) without", sum.count(2), ShellSum.NONE);
        for (int n = 0; n <= 8; n++) {
            sum.put(Calls.pack("12345678"), n);
            Calls.due("promise 8, count(2) of " + n, sum.count(2), n);
        }
        Calls.answer(sum, "a=-9223372036854775807-1");
        Calls.due("promise 8, count(2) of the least", sum.count(2), 20);
        Calls.answer(sum, "a=0");
        Calls.due("promise 8, count(2) of 0", sum.count(2), 1);
        Calls.name(sum, "b");
        Calls.due("promise 8, count(2) of another without", sum.count(2), ShellSum.NONE);
        Calls.name(sum, "a");
        sum.drop();
        Calls.due("promise 8, count(2) after drop", sum.count(2), ShellSum.NONE);
    }

    /** Promise 8: "3 texts reckoned without an error": one of no characters or of blanks, too. */
    private static void withoutAnError() {
        ShellSum sum = new ShellSum();
        String[] texts = {"", " \t\n", "7", "0", "-1", "b=1", "1||1/0"};
        for (int i = 0; i < texts.length; i++) {
            Calls.type(sum, texts[i]);
            Calls.due("promise 8, count(3) ahead of " + texts[i], sum.count(3), i);
            Calls.value(sum);
            Calls.due("promise 8, count(3) after " + texts[i], sum.count(3), i + 1);
            Calls.due("promise 8, count(4) after " + texts[i], sum.count(4), 0);
        }
    }

    /** Promise 8: "4 with one": of each kind. */
    private static void withAnError() {
        ShellSum sum = new ShellSum();
        Calls.fill(sum, 63);
        Calls.put(sum, "bad", "x");
        String[] texts = {"1+", "1 2", "$", "1/0", "b%=0", "bad", "y=1", "-".repeat(41) + "1", "n1=5)", "08"};
        for (int i = 0; i < texts.length; i++) {
            Calls.type(sum, texts[i]);
            Calls.due("promise 8, count(4) ahead of " + texts[i], sum.count(4), i);
            Calls.value(sum);
            Calls.due("promise 8, count(4) after " + texts[i], sum.count(4), i + 1);
            Calls.due("promise 8, count(3) after " + texts[i], sum.count(3), 0);
        }
    }

    /** Promise 8: "NONE for others". */
    private static void others() {
        int[] others = {-1, -2, -3, -4, -5, 5, 6, 7, 8, 64, 255, 256, 257, 65536, Integer.MIN_VALUE, Integer.MAX_VALUE};
        for (int what : others) {
            Calls.due("promise 8, count(" + what + ") of a new one", new ShellSum().count(what), ShellSum.NONE);
            Calls.due("promise 8, count(" + what + ") of one in use", Calls.inUse().count(what), ShellSum.NONE);
        }
    }

    /** Promise 8: count and letter only tell. */
    private static void changesNothing() {
        ShellSum sum = Calls.inUse();
        for (int i = -2; i < 8; i++) {
            sum.count(i);
            sum.letter(i);
        }
        Calls.dueInUse("count and letter", sum);
    }
}
