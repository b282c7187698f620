/** Promise 3, value: only what is needed is reckoned, but all must be right as text. */
public final class ValueNeededTest {
    /** Each would be an error, or change b, if it were reckoned. */
    private static final String[] HARMFUL = {"1/0", "1%0", "bad", "(b=5)", "(b+=5)", "(b/=0)", "(bad+=1)", "-bad", "!(b=2)",
        "(1?b=5:(b=6))", "(0||(b=5))", "(1&&(b=5))", "(1||(b=5))", "1/(0*bad)", "(c=b=3)", "((b=1)?(b=2):(b=3))", "1%(1==2)", "7/0*bad",
        "(0/0&&(b=5))", "(0/0||(b=5))", "(bad?b=5:(b=6))"};

    public static void main(String[] args) {
        for (String part : HARMFUL) {
            notReckoned(part);
        }
        nearSigns();
        reckoned();
        rightAsText();
        afterErrors();
        Calls.end();
    }

    private static void notReckoned(String part) {
        dueHarmless("1||" + part, 1);
        dueHarmless("0&&" + part, 0);
        dueHarmless("1||0||" + part, 1);
        dueHarmless("1||" + part + "||" + part, 1);
        dueHarmless("0&&" + part + "&&" + part, 0);
        dueHarmless("1||" + part + "&&" + part, 1);
        dueHarmless("0&&" + part + "||7", 1);
        dueHarmless("0&&" + part + "||0", 0);
        dueHarmless("1?4:" + part, 4);
        dueHarmless("0?" + part + ":4", 4);
        dueHarmless("0?" + part + ":0?" + part + ":3", 3);
        dueHarmless("1?2:" + part + "?" + part + ":" + part, 2);
        dueHarmless("0?" + part + "?" + part + ":" + part + ":5", 5);
        dueHarmless("(1||" + part + ")+(0&&" + part + ")", 1);
        dueHarmless("1||2+3*" + part, 1);
        dueHarmless("1||" + part + "*2+3==4", 1);
        dueHarmless("0&&" + part + "|8^4", 0);
        dueHarmless("d=1||" + part, 1);
        dueHarmless("1?1||" + part + ":" + part, 1);
    }

    private static void dueHarmless(String text, long want) {
        ShellSum sum = new ShellSum();
        Calls.put(sum, "bad", "x");
        Calls.put(sum, "b", "1");
        Calls.due("value of " + text, Calls.answer(sum, text), want);
        Calls.dueText(sum, "b", "1");
        Calls.dueText(sum, "bad", "x");
        Calls.dueText(sum, "c", null);
    }

    private static void nearSigns() {
        Calls.dueValue("(1||1/0)*7", 7);
        Calls.dueValue("0&&1/0||8/4", 1);
        Calls.dueValue("0||1&&0||2", 1);
        Calls.dueValue("1&&2||1/0", 1);
        Calls.dueValue("5|0&&3", 1);
        Calls.dueValue("0&&1/0?1/0:9/3", 3);
        Calls.dueValue("(0&&1/0)+6/2", 3);
        Calls.dueError("(0&&1/0)+6/0");
        Calls.dueError("(1||1/0)+1/0");
        Calls.dueError("0&&1/0||1/0");
        Calls.dueError("(1?2:1/0)/0");
        Calls.dueError("(0?1/0:2)/0");
    }

    private static void reckoned() {
        String[] texts = {"0||(b=5)", "1&&(b=5)", "1?b=5:0", "0?0:(b=5)", "0||0||(b=5)", "1&&1&&(b=5)", "0&&0||(b=5)", "(b=5)||1", "(b=5)&&0",
            "(b=5)?0:0", "1|(b=5)", "0&(b=5)", "0*(b=5)", "0||1&&(b=5)"};
        for (String text : texts) {
            ShellSum sum = new ShellSum();
            Calls.answer(sum, text);
            Calls.dueText(sum, "b", "5");
        }
        Calls.dueError("0||1/0");
        Calls.dueError("1&&1/0");
        Calls.dueError("1?1/0:2");
        Calls.dueError("0?2:1/0");
        Calls.dueError("1/0||1");
        Calls.dueError("1/0?1:1");
    }

    private static void rightAsText() {
        String[] wrong = {"", "08", "0x", "1a", "(", "(1", "1)", "1+", "*2", "1 2", "b=5", "$", "1?2", "(b=)", "(5=b)", "a+=1",
            "-".repeat(41) + "1", "(".repeat(41) + "1" + ")".repeat(41)};
        for (String part : wrong) {
            Calls.dueError("1||" + part);
            Calls.dueError("0&&" + part);
            Calls.dueError("1?1:" + part);
        }
        Calls.dueValue("0?b=5:1", 1);
        Calls.dueError("0?08:1");
        Calls.dueError("0?:1");
        Calls.dueError("0?(1:1");
    }

    /** An error leaves nothing behind that the next text would feel. */
    private static void afterErrors() {
        ShellSum sum = new ShellSum();
        String[] unended = {"0&&(", "1||(", "0?(", "1?2:(", "0&&1||1&&0&&08"};
        for (int i = 0; i < unended.length; i++) {
            Calls.due("value of " + unended[i], Calls.answer(sum, unended[i]), Calls.ERROR);
            Calls.due("what is needed after it", Calls.answer(sum, "b=" + (i + 5)), i + 5L);
            Calls.dueText(sum, "b", "" + (i + 5));
        }
        for (int i = 0; i < 50; i++) {
            Calls.due("signs without an end", Calls.answer(sum, "1||1&&1|1+1*"), Calls.ERROR);
        }
        Calls.due("signs after them", Calls.answer(sum, "2|4+1*3"), 7L);
    }
}
