/** Promise 3, terms: "ERRORS: .. more than 40 ( , ? , S and + - ! ~ within one another". */
public final class ValueWithinTest {
    private static final int MOST = 40;
    /** What stands ahead of and behind something that is within one of the kinds; the last two are a choice's second and third. */
    private static final String[][] KINDS = {{"(", ")"}, {"+", ""}, {"-", ""}, {"!", ""}, {"~", ""}, {"a=", ""}, {"a|=", ""}, {"1?", ":0"}, {"0?0:", ""}};

    public static void main(String[] args) {
        eachKind();
        eachSignOfS();
        eachPair();
        choices();
        mixed();
        notNeeded();
        besideOneAnother();
        Calls.end();
    }

    /** Promise 3, terms: 40 of each kind are no error, and 41 are: each of ( , ? , S and + - ! ~ counts. */
    private static void eachKind() {
        for (String[] kind : KINDS) {
            Calls.due("promise 3, 40 of " + kind[0], isError(times(kind, MOST, "1")), false);
            Calls.due("promise 3, 41 of " + kind[0], isError(times(kind, MOST + 1, "1")), true);
            Calls.due("promise 3, 60 of " + kind[0], isError(times(kind, 60, "1")), true);
        }
        Calls.dueValue(times(KINDS[0], MOST, "7"), 7);
        Calls.dueError(times(KINDS[0], 149, "7"));
        Calls.dueValue("- ".repeat(MOST) + "7", 7);
        Calls.dueError("-".repeat(299) + "1");
        Calls.dueError("(".repeat(300));
    }

    /** Promise 3, terms: "S" is any of eleven. */
    private static void eachSignOfS() {
        String[] signs = {"=", "*=", "/=", "%=", "+=", "-=", "<<=", ">>=", "&=", "^=", "|="};
        for (String sign : signs) {
            String part = "a" + sign;
            // Behind 0? nothing divides by 0.
            Calls.due("promise 3, ? and 39 of " + part, isError("0?" + part.repeat(MOST - 1) + "1:0"), false);
            Calls.due("promise 3, ? and 40 of " + part, isError("0?" + part.repeat(MOST) + "1:0"), true);
            ShellSum sum = new ShellSum();
            Calls.put(sum, "a", "3");
            Calls.due("promise 3, 41 of " + part, Calls.answer(sum, part.repeat(MOST + 1) + "1"), Calls.ERROR);
            Calls.dueText(sum, "a", "3");
        }
    }

    /** Promise 3, terms: "within one another": kinds in turns count together. */
    private static void eachPair() {
        for (String[] one : KINDS) {
            for (String[] two : KINDS) {
                String[] both = {one[0] + "(" + two[0] + "(", ")" + two[1] + ")" + one[1]};
                Calls.due("promise 3, 40 of " + both[0], isError(times(both, MOST / 4, "1")), false);
                Calls.due("promise 3, 41 of " + both[0], isError(times(both, MOST / 4, "(1)")), true);
                Calls.due("promise 3, 41 of " + both[0], isError(times(both, MOST / 4, "-1")), true);
                Calls.due("promise 3, 41 round " + both[0], isError("(" + times(both, MOST / 4, "1") + ")"), true);
            }
        }
    }

    /** Promise 3, terms: "? .. within one another": what stands behind ? and behind : is within it, what is ahead is not. */
    private static void choices() {
        Calls.dueValue("1?".repeat(MOST) + "5" + ":6".repeat(MOST), 5);
        Calls.dueError("1?".repeat(MOST + 1) + "5" + ":6".repeat(MOST + 1));
        Calls.dueValue("0?5:".repeat(MOST) + "6", 6);
        Calls.dueError("0?5:".repeat(MOST + 1) + "6");
        Calls.dueError("1?5:".repeat(MOST + 1) + "6");
        Calls.dueValue(times(KINDS[0], MOST, "1") + "?2:3", 2);
        Calls.dueError(times(KINDS[0], MOST + 1, "1") + "?2:3");
        Calls.dueValue("1?" + times(KINDS[0], MOST - 1, "2") + ":" + times(KINDS[0], MOST - 1, "3"), 2);
        Calls.dueError("1?" + times(KINDS[0], MOST, "2") + ":3");
        Calls.dueError("1?2:" + times(KINDS[0], MOST, "3"));
    }

    /** Promise 3, terms: all kinds in one text. */
    private static void mixed() {
        Calls.dueValue("(a=1?-".repeat(10) + "5" + ":0)".repeat(10), 5);
        Calls.dueError("(a=1?-".repeat(10) + "-5" + ":0)".repeat(10));
        Calls.dueError("(a=1?-".repeat(10) + "(5)" + ":0)".repeat(10));
        Calls.dueError("(a=1?-".repeat(10) + "(a=5)" + ":0)".repeat(10));
        Calls.dueError("(" + "(a=1?-".repeat(10) + "5" + ":0)".repeat(10) + ")");
        Calls.dueValue("-(".repeat(20) + "1" + ")".repeat(20), 1);
        Calls.dueError("-(".repeat(20) + "-1" + ")".repeat(20));
    }

    /** Promise 3, terms: "the rest must be right as text": the limit holds there, too. */
    private static void notNeeded() {
        for (String[] kind : KINDS) {
            String fits = times(kind, MOST - 1, "1");
            String tooMuch = times(kind, MOST, "1");
            Calls.due("promise 3, behind 1||( 39 of " + kind[0], isError("1||(" + fits + ")"), false);
            Calls.due("promise 3, behind 1||( 40 of " + kind[0], isError("1||(" + tooMuch + ")"), true);
            Calls.due("promise 3, behind 0&&( 40 of " + kind[0], isError("0&&(" + tooMuch + ")"), true);
            Calls.due("promise 3, behind 0? 39 of " + kind[0], isError("0?" + fits + ":1"), false);
            Calls.due("promise 3, behind 0? 40 of " + kind[0], isError("0?" + tooMuch + ":1"), true);
            Calls.due("promise 3, behind 1?1:( 40 of " + kind[0], isError("1?1:(" + tooMuch + ")"), true);
        }
    }

    /** Promise 3, terms: "within one another": as many may stand beside one another as the text has room for. */
    private static void besideOneAnother() {
        Calls.dueValue("(1)+".repeat(74) + "0", 74);
        Calls.dueValue("-1" + "- -1".repeat(74), 73);
        Calls.dueValue("1" + "--1".repeat(99), 100);
        Calls.dueValue("1" + "+(1)".repeat(74), 75);
        Calls.dueValue("(1?1:0)+".repeat(37) + "0", 37);
        Calls.dueValue("(a=1)+".repeat(49) + "0", 49);
        Calls.dueValue("1" + "+1".repeat(149), 150);
        Calls.dueValue(times(KINDS[0], MOST, "1") + "+" + times(KINDS[0], MOST, "2") + "+" + "-".repeat(MOST) + "3", 6);
    }

    private static String times(String[] kind, int times, String inner) {
        return kind[0].repeat(times) + inner + kind[1].repeat(times);
    }

    private static boolean isError(String text) {
        return Calls.answer(new ShellSum(), text) == Calls.ERROR;
    }
}
