/** Promise 5: put. */
public final class PutTest {
    public static void main(String[] args) {
        lowestBytes();
        noByte();
        overAnotherText();
        counts();
        characters();
        charactersAtEachPlace();
        sixtyFourNames();
        sixtyFourAndThisHas();
        sixtyFourGotInOtherWays();
        Calls.end();
    }

    /** Promise 5: "The name at hand gets the text of the n lowest bytes of chars: true". */
    private static void lowestBytes() {
        for (int n = 1; n <= 8; n++) {
            ShellSum sum = new ShellSum();
            String text = "\t1 \n~x-!".substring(0, n);
            // The bytes above the n lowest are none of a text here, and must not be looked at.
            long above = n == 8 ? 0 : 0xFF1F7F80000B08FFL << 8 * n;
            Calls.due("promise 5, put of " + n, sum.put(Calls.pack(text) | above, n), true);
            Calls.due("promise 5, names with a text", sum.count(1), 1);
            Calls.dueText(sum, "a", text);
            Calls.dueText(sum, "b", null);
        }
    }

    /** Promise 5: n = 0 is in "0 .. 8": the name gets an empty text, which is one. */
    private static void noByte() {
        long[] chars = {0, -1, Calls.pack("99"), Long.MIN_VALUE};
        for (long some : chars) {
            ShellSum sum = new ShellSum();
            Calls.due("promise 5, put(" + some + ", 0)", sum.put(some, 0), true);
            Calls.due("promise 5, names with a text", sum.count(1), 1);
            Calls.dueText(sum, "a", "");
            Calls.due("promise 5, drop of the empty text", sum.drop(), true);
        }
    }

    /** Promise 5: the name "gets the text", in place of a longer or a shorter one that it has. */
    private static void overAnotherText() {
        ShellSum sum = new ShellSum();
        String[] texts = {"12345678", "-1", "", "a+b", "0x12345", "0", "        "};
        for (String text : texts) {
            Calls.due("promise 5, put of " + text, Calls.put(sum, "b", text), true);
            Calls.dueText(sum, "b", text);
            Calls.due("promise 5, names with a text", sum.count(1), 1);
        }
        Calls.answer(sum, "b=-9223372036854775807-1");
        Calls.due("promise 5, put over an assignment", Calls.put(sum, "b", "6"), true);
        Calls.dueText(sum, "b", "6");
        Calls.due("promise 5, value of b", Calls.answer(sum, "b"), 6L);
    }

    /** Promise 5: "false, changing nothing, when n is not 0 .. 8". */
    private static void counts() {
        int[] counts = {-1, -2, -8, -256, Integer.MIN_VALUE, 9, 10, 16, 64, 256, Integer.MAX_VALUE};
        for (int n : counts) {
            ShellSum sum = Calls.inUse();
            String call = "put(.., " + n + ")";
            Calls.due("promise 5, " + call, sum.put(Calls.pack("11111111"), n), false);
            Calls.dueInUse(call, sum);
            dueRefusedWithoutText(Calls.pack("11111111"), n);
        }
    }

    /** Promise 5: "false, changing nothing, when .. one of them is none of a text": 9, 10, 32 .. 126 are. */
    private static void characters() {
        for (int c = 0; c < 256; c++) {
            boolean fits = Calls.isOfText(c);
            ShellSum sum = Calls.inUse();
            Calls.due("promise 5, put of character " + c, sum.put(c, 1), fits);
            if (fits) {
                Calls.dueText(sum, "b", "" + (char) c);
            } else {
                Calls.dueInUse("put of character " + c, sum);
                dueRefusedWithoutText(c, 1);
            }
        }
    }

    /** Promise 5: "one of them is none of a text": wherever among the n it stands. */
    private static void charactersAtEachPlace() {
        int[] some = {0, 8, 9, 10, 11, 31, 32, 126, 127, 128, 255};
        for (int place = 0; place < 8; place++) {
            for (int c : some) {
                ShellSum sum = Calls.inUse();
                String call = "put of eight with character " + c + " at " + place;
                boolean fits = Calls.isOfText(c);
                Calls.due("promise 5, " + call, sum.put(Calls.eightButOne('1', place, c), 8), fits);
                if (!fits) {
                    Calls.dueInUse(call, sum);
                }
            }
        }
    }

    /** Promise 5: "changing nothing": a name that has no text has none after a put that was refused. */
    private static void dueRefusedWithoutText(long chars, int n) {
        ShellSum sum = new ShellSum();
        Calls.due("promise 5, put(" + chars + ", " + n + ") of a new one", sum.put(chars, n), false);
        Calls.due("promise 5, names with a text", sum.count(1), 0);
        Calls.due("promise 5, the length of its text", sum.count(2), ShellSum.NONE);
    }

    /** Promise 5: "false, changing nothing, when .. 64 names have one and this has not". */
    private static void sixtyFourNames() {
        ShellSum sum = new ShellSum();
        Calls.fill(sum, 63);
        Calls.due("promise 5, put of a 64th name", Calls.put(sum, "x", "1"), true);
        Calls.due("promise 5, names with a text", sum.count(1), 64);
        Calls.due("promise 5, put of a 65th name", Calls.put(sum, "y", "2"), false);
        Calls.due("promise 5, put of a 65th name, empty", sum.put(0, 0), false);
        Calls.due("promise 5, names with a text", sum.count(1), 64);
        Calls.due("promise 5, the length of the 65th's text", sum.count(2), ShellSum.NONE);
        Calls.due("promise 5, value of the 65th", Calls.answer(sum, "y"), 0L);
        Calls.dueText(sum, "x", "1");
        for (int i = 0; i < 63; i++) {
            Calls.name(sum, "n" + i);
            Calls.due("promise 5, the last letter of n" + i, sum.letter(i < 10 ? 0 : 1), (int) ("" + i % 10).charAt(0));
        }
    }

    /** Promise 5: "64 names have one and this has not": one that has may get another; an empty text is one, too. */
    private static void sixtyFourAndThisHas() {
        ShellSum sum = new ShellSum();
        Calls.fill(sum, 64);
        for (int i = 0; i < 64; i += 21) {
            Calls.due("promise 5, put of n" + i + ", one of 64", Calls.put(sum, "n" + i, "-" + i), true);
            Calls.dueText(sum, "n" + i, "-" + i);
        }
        Calls.due("promise 5, put of one of 64, empty", Calls.put(sum, "n5", ""), true);
        Calls.due("promise 5, names with a text", sum.count(1), 64);
        Calls.due("promise 5, put of a 65th name", Calls.put(sum, "x", "1"), false);
        Calls.due("promise 5, put of the empty one", Calls.put(sum, "n5", "55"), true);
        Calls.due("promise 5, drop of one of 64", sum.drop(), true);
        Calls.due("promise 5, put of another then", Calls.put(sum, "x", "1"), true);
        Calls.due("promise 5, put of the one that was dropped", Calls.put(sum, "n5", "1"), false);
        Calls.dueText(sum, "n5", null);
        Calls.dueText(sum, "x", "1");
    }

    /** Promise 5: "64 names have one", also those that assignments gave it. */
    private static void sixtyFourGotInOtherWays() {
        ShellSum sum = new ShellSum();
        Calls.fill(sum, 62);
        Calls.answer(sum, "p=q=1");
        Calls.due("promise 5, names with a text", sum.count(1), 64);
        Calls.due("promise 5, put of a 65th name", Calls.put(sum, "x", "1"), false);
        Calls.due("promise 5, put of what an assignment gave a text", Calls.put(sum, "q", "2"), true);
        Calls.answer(sum, "p=8");
        Calls.due("promise 5, names with a text", sum.count(1), 64);
        Calls.dueText(sum, "p", "8");
        Calls.dueText(sum, "q", "2");
    }
}
