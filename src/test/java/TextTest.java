/** Promise 2: text. */
public final class TextTest {
    private static final int[] NO_COUNTS = {-1, -2, -8, -256, Integer.MIN_VALUE, 9, 10, 16, 64, 256, Integer.MAX_VALUE};

    public static void main(String[] args) {
        lowestBytes();
        noByte();
        counts();
        characters();
        charactersAtEachPlace();
        longest();
        longestWithCounts();
        Calls.end();
    }

    /** Promise 2: "The n lowest bytes of chars, the highest of them first, come behind the text: how long it is". */
    private static void lowestBytes() {
        for (int n = 1; n <= 8; n++) {
            ShellSum sum = new ShellSum();
            String digits = "12345678".substring(0, n);
            // The bytes above the n lowest are none of a text here, and must not be looked at.
            long above = n == 8 ? 0 : 0xFF1F7F80000B08FFL << 8 * n;
            Calls.due("promise 2, the first " + n, sum.text(Calls.pack(digits) | above, n), n);
            Calls.due("promise 2, length after " + n, sum.count(0), n);
            Calls.due("promise 2, " + n + " and one more", sum.text('9', 1), n + 1);
            Calls.due("promise 2, value of " + digits + "9", Calls.value(sum), Long.parseLong(digits + "9"));
            Calls.due("promise 2, the first after value()", sum.text('8', 1), 1);
            Calls.due("promise 2, value of 8", Calls.value(sum), 8L);
        }
    }

    /** Promise 2: n = 0 is in "0 .. 8": nothing comes behind the text, whatever chars is. */
    private static void noByte() {
        long[] chars = {0, -1, Calls.pack("99"), Long.MIN_VALUE, Long.MAX_VALUE};
        for (long some : chars) {
            ShellSum sum = Calls.inUse();
            Calls.due("promise 2, text(" + some + ", 0)", sum.text(some, 0), 2);
            Calls.dueInUse("text(" + some + ", 0)", sum);
            Calls.due("promise 2, text(" + some + ", 0) of a new one", new ShellSum().text(some, 0), 0);
        }
    }

    /** Promise 2: "NONE, changing nothing, when n is not 0 .. 8". */
    private static void counts() {
        for (int n : NO_COUNTS) {
            ShellSum sum = Calls.inUse();
            String call = "text(.., " + n + ")";
            Calls.due("promise 2, " + call, sum.text(Calls.pack("11111111"), n), ShellSum.NONE);
            Calls.dueInUse(call, sum);
        }
    }

    /** Promise 2: "NONE, changing nothing, when .. one of them is none of a text": 9, 10, 32 .. 126 are. */
    private static void characters() {
        for (int c = 0; c < 256; c++) {
            boolean fits = Calls.isOfText(c);
            ShellSum sum = Calls.inUse();
            Calls.due("promise 2, text of character " + c, sum.text(c, 1), fits ? 3 : ShellSum.NONE);
            if (fits) {
                Calls.due("promise 2, length with character " + c, sum.count(0), 3);
            } else {
                Calls.dueInUse("text of character " + c, sum);
            }
        }
    }

    /** Promise 2: "one of them is none of a text": wherever among the n it stands. */
    private static void charactersAtEachPlace() {
        int[] some = {0, 8, 9, 10, 11, 31, 32, 126, 127, 128, 255};
        for (int place = 0; place < 8; place++) {
            for (int c : some) {
                ShellSum sum = Calls.inUse();
                String call = "text of eight with character " + c + " at " + place;
                boolean fits = Calls.isOfText(c);
                Calls.due("promise 2, " + call, sum.text(Calls.eightButOne('1', place, c), 8), fits ? 10 : ShellSum.NONE);
                if (!fits) {
                    Calls.dueInUse(call, sum);
                }
            }
        }
    }

    /** Promise 2: "NONE, changing nothing, when .. it would be longer than 300". */
    private static void longest() {
        for (int before = 291; before <= 300; before++) {
            for (int n = 0; n <= 8; n++) {
                ShellSum sum = new ShellSum();
                Calls.due("promise 2, text of " + before, Calls.type(sum, " ".repeat(before - 1) + "7"), before);
                boolean fits = before + n <= 300;
                int after = fits ? before + n : before;
                String call = n + " behind " + before;
                Calls.due("promise 2, " + call, sum.text(Calls.pack("1".repeat(n)), n), fits ? after : ShellSum.NONE);
                Calls.due("promise 2, length after " + call, sum.count(0), after);
                Calls.due("promise 2, value after " + call, Calls.value(sum), Long.parseLong("7" + "1".repeat(fits ? n : 0)));
                Calls.due("promise 2, room again after value()", sum.text(Calls.pack("11111111"), 8), 8);
            }
        }
    }

    /** Promise 2: "longer than 300" with an n so large that the sum of both goes round. */
    private static void longestWithCounts() {
        ShellSum sum = new ShellSum();
        Calls.type(sum, "0".repeat(299) + "7");
        for (int n : NO_COUNTS) {
            Calls.due("promise 2, text(.., " + n + ") behind 300", sum.text(Calls.pack("11111111"), n), ShellSum.NONE);
            Calls.due("promise 2, length after it", sum.count(0), 300);
        }
        Calls.due("promise 2, value after all", Calls.value(sum), 7L);
    }
}
