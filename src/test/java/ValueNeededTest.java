/** Promise 3, terms: only what is needed is reckoned, but all must be right as text. */
public final class ValueNeededTest {
    /** Each would be an error, or change b, if it were reckoned; bad has the text x. */
    private static final String[] HARMFUL = {"1/0", "1%0", "bad", "(b=5)", "(b+=5)", "(b/=0)", "(bad+=1)", "-bad", "!(b=2)",
        "(1?b=5:(b=6))", "(0||(b=5))", "(1&&(b=5))", "(1||(b=5))", "1/(0*bad)", "(c=b=3)", "((b=1)?(b=2):(b=3))", "1%(1==2)", "7/0*bad",
        "(0/0&&(b=5))", "(0/0||(b=5))", "(bad?b=5:(b=6))"};

    public static void main(String[] args) {
        for (String part : HARMFUL) {
            behindOr(part);
            behindAnd(part);
            inChoices(part);
            manyAtOnce(part);
        }
        endOfWhatIsNotNeeded();
        whatIsNeeded();
        rightAsText();
        afterErrors();
        Calls.end();
    }

    /** Promise 3, terms: "behind || .. the second": not reckoned where the first is not 0. */
    private static void behindOr(String part) {
        dueHarmless("1||" + part, 1);
        dueHarmless("-1||" + part, 1);
        dueHarmless("9223372036854775808||" + part, 1);
        dueHarmless("4294967296||" + part, 1);
        dueHarmless("0||2||" + part, 1);
        dueHarmless("1||0||" + part, 1);
        dueHarmless("1||" + part + "||" + part, 1);
        dueHarmless("1||" + part + "&&" + part, 1);
        dueHarmless("1||2+3*" + part, 1);
        dueHarmless("1||" + part + "*2+3==4", 1);
        dueHarmless("d=1||" + part, 1);
    }

    /** Promise 3, terms: "behind .. && the second": not reckoned where the first is 0. */
    private static void behindAnd(String part) {
        dueHarmless("0&&" + part, 0);
        dueHarmless("18446744073709551616&&" + part, 0);
        dueHarmless("1&&0&&" + part, 0);
        dueHarmless("0&&" + part + "&&" + part, 0);
        dueHarmless("0&&" + part + "||7", 1);
        dueHarmless("0&&" + part + "||0", 0);
        dueHarmless("0&&" + part + "|8^4", 0);
    }

    /** Promise 3, terms: "of ? : one of both", the other not. */
    private static void inChoices(String part) {
        dueHarmless("1?4:" + part, 4);
        dueHarmless("-1?4:" + part, 4);
        dueHarmless("4294967296?4:" + part, 4);
        dueHarmless("0?" + part + ":4", 4);
        dueHarmless("0?b=" + part + ":4", 4);
        dueHarmless("0?" + part + ":0?" + part + ":3", 3);
        dueHarmless("1?2:" + part + "?" + part + ":" + part, 2);
        dueHarmless("0?" + part + "?" + part + ":" + part + ":5", 5);
    }

    /** Promise 3, terms: "there names are not looked at or changed, nothing divides", in parts of both kinds at once. */
    private static void manyAtOnce(String part) {
        dueHarmless("(1||" + part + ")+(0&&" + part + ")", 1);
        dueHarmless("1?1||" + part + ":" + part, 1);
        dueHarmless("1||(0||" + part + ")", 1);
        dueHarmless("1||(1&&" + part + ")", 1);
        dueHarmless("0&&(1?" + part + ":" + part + ")", 0);
        dueHarmless("0?(1||" + part + ")+" + part + ":6", 6);
        dueHarmless("0?0?" + part + ":" + part + ":6", 6);
    }

    private static void dueHarmless(String text, long want) {
        ShellSum sum = new ShellSum();
        Calls.put(sum, "bad", "x");
        Calls.put(sum, "b", "1");
        Calls.due("promise 3, value of " + text, Calls.answer(sum, text), want);
        Calls.dueText(sum, "b", "1");
        Calls.dueText(sum, "bad", "x");
        Calls.dueText(sum, "c", null);
    }

    /** Promise 3, terms: "Only what is needed": what stands behind such a part is needed again. */
    private static void endOfWhatIsNotNeeded() {
        Calls.dueValue("(1||1/0)*7", 7);
        Calls.dueValue("0&&1/0||8/4", 1);
        Calls.dueValue("0||1&&0||2", 1);
        Calls.dueValue("1&&2||1/0", 1);
        Calls.dueValue("5|0&&3", 1);
        Calls.dueValue("0&&1/0?1/0:9/3", 3);
        Calls.dueValue("(0&&1/0)+6/2", 3);
        Calls.dueError("(0&&1/0)+6/0");
        Calls.dueError("(1||1/0)+1/0");
        Calls.dueError("0&&1/0||1/0");
        Calls.dueError("(1?2:1/0)/0");
        Calls.dueError("(0?1/0:2)/0");
        Calls.dueError("0?1/0:1/0");
        String[] texts = {"(1||1/0)+(b=5)", "0&&1||(b=5)", "(1?2:1/0)+(b=5)", "(0?1/0:2)+(b=5)", "0?1/0:(b=5)"};
        for (String text : texts) {
            dueReckoned(text);
        }
    }

    /** Promise 3, terms: "Only what is needed is reckoned": and that is. */
    private static void whatIsNeeded() {
        String[] texts = {"0||(b=5)", "1&&(b=5)", "1?b=5:0", "0?0:(b=5)", "0||0||(b=5)", "1&&1&&(b=5)", "0&&0||(b=5)", "(b=5)||1", "(b=5)&&0",
            "(b=5)?0:0", "1|(b=5)", "0&(b=5)", "0*(b=5)", "0||1&&(b=5)", "-1&&(b=5)", "18446744073709551616||(b=5)"};
        for (String text : texts) {
            dueReckoned(text);
        }
        String[] errors = {"0||1/0", "1&&1/0", "1?1/0:2", "0?2:1/0", "1/0||1", "1/0&&0", "1/0?1:1", "0*(1/0)", "1|1/0", "0&1%0"};
        for (String text : errors) {
            Calls.dueError(text);
        }
    }

    private static void dueReckoned(String text) {
        ShellSum sum = new ShellSum();
        Calls.due("promise 3, whether " + text + " has an error", Calls.answer(sum, text) == Calls.ERROR, false);
        Calls.dueText(sum, "b", "5");
    }

    /** Promise 3, terms: "the rest must be right as text (numbers, too)". */
    private static void rightAsText() {
        String[] wrong = {"", "08", "0x", "1a", "(", "(1", "1)", "1+", "*2", "1 2", "b=5", "$", "1?2", "(b=)", "(5=b)", "a+=1", "()", "-",
            "-".repeat(41) + "1", "(".repeat(41) + "1" + ")".repeat(41)};
        for (String part : wrong) {
            Calls.dueError("1||" + part);
            Calls.dueError("0&&" + part);
            Calls.dueError("1?1:" + part);
        }
        Calls.dueValue("0?b=5:1", 1);
        String[] behindChoice = {"", "08", "0x", "1a", "(", "(1", "1)", "1+", "*2", "1 2", "$", "b=", "5=b", "()", "-"};
        for (String part : behindChoice) {
            Calls.dueError("0?" + part + ":1");
        }
    }

    /** Promise 3: an error leaves nothing behind that the next text would feel. */
    private static void afterErrors() {
        ShellSum sum = new ShellSum();
        String[] unended = {"0&&(", "1||(", "0?(", "1?2:(", "0&&1||1&&0&&08"};
        for (int i = 0; i < unended.length; i++) {
            Calls.due("promise 3, value of " + unended[i], Calls.answer(sum, unended[i]), Calls.ERROR);
            Calls.due("promise 3, what is needed after it", Calls.answer(sum, "b=" + (i + 5)), i + 5L);
            Calls.dueText(sum, "b", "" + (i + 5));
        }
        for (int i = 0; i < 50; i++) {
            Calls.due("promise 3, signs without an end", Calls.answer(sum, "1||1&&1|1+1*"), Calls.ERROR);
        }
        Calls.due("promise 3, signs after them", Calls.answer(sum, "2|4+1*3"), 7L);
    }
}
