/** "An object is used for at most 512 calls after it has been made": the 512th still answers as promised. */
public final class LifeTest {
    private static final int CALLS = 512;

    public static void main(String[] args) {
        values();
        errors();
        texts();
        namesComeAndGo();
        fullOnes();
        manyObjects();
        Calls.end();
    }

    private static void values() {
        ShellSum sum = new ShellSum();
        for (int i = 1; i < CALLS; i++) {
            Calls.due("value() as call " + i, Calls.value(sum), 0L);
        }
        Calls.due("count(3) as the 512th call", sum.count(3), CALLS - 1);
    }

    private static void errors() {
        ShellSum sum = new ShellSum();
        for (int i = 0; i < 255; i++) {
            sum.text(Calls.pack("1||1&&1+"), 8);
            Calls.due("value() of an error", Calls.value(sum), Calls.ERROR);
        }
        sum.text(Calls.pack("1+2*3"), 5);
        Calls.due("value() as the 512th call", Calls.value(sum), 7L);
    }

    private static void texts() {
        ShellSum sum = new ShellSum();
        for (int i = 1; i <= 300; i++) {
            Calls.due("text as call " + i, sum.text(i < 300 ? ' ' : '7', 1), i);
        }
        for (int i = 301; i < CALLS; i++) {
            Calls.due("text as call " + i, sum.text('1', 1), ShellSum.NONE);
        }
        Calls.due("value() as the 512th call", Calls.value(sum), 7L);
    }

    /** More names come and go than may have a text at once. */
    private static void namesComeAndGo() {
        ShellSum sum = new ShellSum();
        for (int i = 0; i < 127; i++) {
            sum.name(Calls.pack("m" + i), ("m" + i).length());
            Calls.due("put of m" + i, sum.put('1', 1), true);
            Calls.due("drop of m" + i, sum.drop(), true);
            Calls.due("drop of m" + i + " again", sum.drop(), false);
        }
        for (int i = 508; i < CALLS - 1; i++) {
            Calls.due("put as call " + (i + 1), sum.put('4', 1), true);
        }
        Calls.due("count(1) as the 512th call", sum.count(1), 1);
    }

    /** All that may be full is full at the end: the text, the names, the texts of the names. */
    private static void fullOnes() {
        ShellSum sum = new ShellSum();
        int calls = 0;
        for (int i = 0; i < 64; i++) {
            String text = "m" + i + "=1<<63";
            sum.text(Calls.pack(text.substring(0, 4)), 4);
            sum.text(Calls.pack(text.substring(4)), text.length() - 4);
            Calls.due("value of " + text, Calls.value(sum), Long.MIN_VALUE);
            calls += 3;
        }
        for (int i = 0; i < 64; i++) {
            String name = "m" + i;
            sum.name(Calls.pack(name), name.length());
            Calls.due("the length of its text", sum.count(2), 20);
            Calls.due("the last letter of its text", sum.letter(19), (int) '8');
            calls += 3;
        }
        for (int i = 0; i < 75; i++) {
            sum.text(Calls.pack("m63+"), 4);
            calls++;
        }
        for (; calls < CALLS - 2; calls++) {
            Calls.due("text behind 300", sum.text('1', 1), ShellSum.NONE);
        }
        Calls.due("value() as the 511th call", Calls.value(sum), Calls.ERROR);
        Calls.due("count(4) as the 512th call", sum.count(4), 1);
    }

    /** One object's calls take nothing from another's. */
    private static void manyObjects() {
        ShellSum[] sums = new ShellSum[100];
        for (int i = 0; i < sums.length; i++) {
            sums[i] = new ShellSum();
            Calls.answer(sums[i], "a=" + i);
        }
        for (int i = 0; i < sums.length; i++) {
            Calls.due("a of object " + i, Calls.answer(sums[i], "a"), (long) i);
        }
    }
}
