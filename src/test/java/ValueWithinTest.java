/** Promise 3, value: 40 of ( , ? , S and + - ! ~ may stand within one another. */
public final class ValueWithinTest {
    public static void main(String[] args) {
        int most = 40;
        Calls.dueValue(brackets(most, "7"), 7);
        Calls.dueError(brackets(most + 1, "7"));
        Calls.dueError(brackets(149, "7"));
        for (String sign : new String[] {"-", "+", "~", "!", "- ", "-+"}) {
            int times = most / sign.strip().length();
            Calls.dueValue(sign.repeat(times) + "1", 1);
            Calls.dueError(sign.repeat(times) + "-1");
        }
        assignments(most);
        choices(most);
        mixed();
        besideOneAnother();
        Calls.end();
    }

    private static String brackets(int times, String inner) {
        return "(".repeat(times) + inner + ")".repeat(times);
    }

    private static void assignments(int most) {
        ShellSum sum = new ShellSum();
        Calls.due("40 S", Calls.answer(sum, "a=".repeat(most) + "3"), 3L);
        Calls.due("41 S", Calls.answer(sum, "a=".repeat(most + 1) + "4"), Calls.ERROR);
        Calls.dueText(sum, "a", "3");
        Calls.due("40 S with signs", Calls.answer(sum, "b+=".repeat(most) + "0"), 0L);
        Calls.due("41 S with signs", Calls.answer(sum, "b<<=".repeat(most + 1) + "0"), Calls.ERROR);
    }

    private static void choices(int most) {
        Calls.dueValue("1?".repeat(most) + "5" + ":6".repeat(most), 5);
        Calls.dueError("1?".repeat(most + 1) + "5" + ":6".repeat(most + 1));
        Calls.dueValue("0?5:".repeat(most) + "6", 6);
        Calls.dueError("0?5:".repeat(most + 1) + "6");
        Calls.dueError("1?5:".repeat(most + 1) + "6");
        Calls.dueValue(brackets(most, "1") + "?2:3", 2);
        Calls.dueValue("1?" + brackets(most - 1, "2") + ":" + brackets(most - 1, "3"), 2);
        Calls.dueError("1?" + brackets(most, "2") + ":3");
        Calls.dueError("0?" + brackets(most, "2") + ":3");
        Calls.dueError("1?2:" + brackets(most, "3"));
        Calls.dueError("0?2:" + brackets(most, "3"));
    }

    private static void mixed() {
        Calls.dueValue("(a=1?-".repeat(10) + "5" + ":0)".repeat(10), 5);
        Calls.dueError("(a=1?-".repeat(10) + "-5" + ":0)".repeat(10));
        Calls.dueError("(a=1?-".repeat(10) + "(5)" + ":0)".repeat(10));
        Calls.dueError("(a=1?-".repeat(10) + "(a=5)" + ":0)".repeat(10));
        Calls.dueError("(" + "(a=1?-".repeat(10) + "5" + ":0)".repeat(10) + ")");
        Calls.dueValue("-(".repeat(20) + "1" + ")".repeat(20), 1);
        Calls.dueError("-(".repeat(20) + "-1" + ")".repeat(20));
    }

    private static void besideOneAnother() {
        Calls.dueValue("(1)+".repeat(74) + "0", 74);
        Calls.dueValue("-1" + "- -1".repeat(74), 73);
        Calls.dueValue("1" + "+1".repeat(149), 150);
        Calls.dueValue(brackets(40, "1") + "+" + brackets(40, "2") + "+" + "-".repeat(40) + "3", 6);
        Calls.dueValue("0||1&&1|1^1&1==1<1<<1+1*(".repeat(8) + "1" + ")".repeat(8), 1);
    }
}
