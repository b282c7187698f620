/** Promise 3, terms: how a text is built from names, numbers, brackets, choices, signs of one, and blanks between. */
public final class ValueSignsTest {
    private static final String[] BLANKS = {"\t", "\n", " ", " \n\t "};

    public static void main(String[] args) {
        eachSignOfTwo();
        ones();
        brackets();
        choices();
        choicesEndWithC();
        blanksBetween();
        blanksNotWithin();
        nameNotFollowedByTwo();
        Calls.end();
    }

    /** Promise 3, terms: what each sign of two comes to. */
    private static void eachSignOfTwo() {
        Calls.dueValue("12|10", 14);
        Calls.dueValue("12^10", 6);
        Calls.dueValue("12&10", 8);
        Calls.dueValue("3<<4", 48);
        Calls.dueValue("48>>3", 6);
        Calls.dueValue("3+4", 7);
        Calls.dueValue("3-4", -1);
        Calls.dueValue("3*-4", -12);
        Calls.dueValue("17/5", 3);
        Calls.dueValue("17%5", 2);
    }

    /** Promise 3, terms: "U: + - ! ~ ahead of a U, or P." */
    private static void ones() {
        Calls.dueValue("-5", -5);
        Calls.dueValue("+5", 5);
        Calls.dueValue("!5", 0);
        Calls.dueValue("!0", 1);
        Calls.dueValue("~5", -6);
        Calls.dueValue("- -5", 5);
        Calls.dueValue("--5", 5);
        Calls.dueValue("++5", 5);
        Calls.dueValue("-+~!0", 2);
        Calls.dueValue("3--5", 8);
        Calls.dueValue("3++5", 8);
        Calls.dueValue("3+-+-5", 8);
        Calls.dueValue("3*-2", -6);
        Calls.dueValue("-2*-3", 6);
        Calls.dueValue("!0+1", 2);
        Calls.dueValue("!(0+1)", 0);
        Calls.dueValue("1!=!1", 1);
        Calls.dueValue("~0==-1", 1);
        Calls.dueValue("!!7", 1);
        Calls.dueValue("6&&!0", 1);
        Calls.dueValue("-(1+2)", -3);
        Calls.dueError("-");
        Calls.dueError("-*1");
        Calls.dueError("!=1");
        Calls.dueError("-=1");
        Calls.dueError("5-");
    }

    /** Promise 3, terms: "P: ( E ), a number, a name." */
    private static void brackets() {
        Calls.dueValue("(7)", 7);
        Calls.dueValue("(nobody)", 0);
        Calls.dueValue("((7))", 7);
        Calls.dueValue("(b=7)+b", 14);
        Calls.dueValue("(1?b=2:3)", 2);
        String[] wrong = {"()", "( )", "(", ")", "(7", "7)", "((7)", "(7))", "(7)8", "8(7)", "(7 8)", "(+)", "(7+)", "(*7)"};
        for (String text : wrong) {
            Calls.dueError(text);
        }
    }

    /** Promise 3, terms: "C: B, or B ? E : C." */
    private static void choices() {
        Calls.dueValue("1?2:3", 2);
        Calls.dueValue("0?2:3", 3);
        Calls.dueValue("-1?2:3", 2);
        Calls.dueValue("9223372036854775808?2:3", 2);
        Calls.dueValue("4294967296?2:3", 2);
        Calls.dueValue("18446744073709551616?2:3", 3);
        Calls.dueValue("0?1:0?2:3", 3);
        Calls.dueValue("0?1:1?2:3", 2);
        Calls.dueValue("1?0:1?2:3", 0);
        Calls.dueValue("1?0?4:5:6", 5);
        Calls.dueValue("1?1?4:5:6", 4);
        Calls.dueValue("0||1?2+3:4", 5);
        Calls.dueValue("0?2:3+4", 7);
        Calls.dueValue("0?2:0||4", 1);
        Calls.dueValue("2*(1?2:3)", 4);
        String[] wrong = {"1?2", "1?2:", "1?:3", "?2:3", "1:2", "1?2:3:4", "1?(2:3)", "(1?2):3", "1??2:3", "1?2::3", "1?2?3:4", "?", ":", "?:"};
        for (String text : wrong) {
            Calls.dueError(text);
        }
    }

    /** Promise 3, terms: "B ? E : C": an assignment may stand behind ? , but needs brackets behind : and ahead of ? . */
    private static void choicesEndWithC() {
        Calls.dueValue("1?b=5:6", 5);
        Calls.dueValue("0?b=5:6", 6);
        Calls.dueValue("1?b=c=5:6", 5);
        Calls.dueValue("1?b=0?7:8:6", 8);
        Calls.dueValue("0?5:(b=6)", 6);
        Calls.dueValue("b=0?5:6", 6);
        Calls.dueError("0?5:b=6");
        Calls.dueError("1?5:b=6");
        Calls.dueError("0?5:b+=6");
        Calls.dueError("1+b=0?5:6");
    }

    /** Promise 3, terms: "BLANKS are 9, 10, 32 and stand anywhere between". */
    private static void blanksBetween() {
        String[] parts = {"(", "abc", "<<=", "-", "12", "+", "1", ")", "?", "x_1", "=", "0x1F", "||", "!", "0", "<=", "017", ":", "~", "1"};
        String text = String.join("", parts);
        ShellSum plain = new ShellSum();
        Object want = Calls.answer(plain, text);
        Calls.due("promise 3, a value is there", want, -2L);
        for (String blank : BLANKS) {
            for (int gap = 0; gap <= parts.length; gap++) {
                StringBuilder spaced = new StringBuilder();
                for (int i = 0; i <= parts.length; i++) {
                    spaced.append(i == gap ? blank : "").append(i < parts.length ? parts[i] : "");
                }
                Calls.due("promise 3, a blank ahead of part " + gap + " of " + text, Calls.answer(new ShellSum(), spaced.toString()), want);
            }
            Calls.due("promise 3, blanks between all", Calls.answer(new ShellSum(), blank + String.join(blank, parts) + blank), want);
        }
    }

    /** Promise 3, terms: "between": not within a sign, a number or a name. */
    private static void blanksNotWithin() {
        String[][] halves = {{"1|", "|2"}, {"1&", "&1"}, {"1<", "<2"}, {"1>", ">2"}, {"1=", "=1"}, {"1!", "=2"}, {"1<", "=2"}, {"1>", "=2"},
            {"a+", "=1"}, {"a-", "=1"}, {"a*", "=1"}, {"a/", "=1"}, {"a%", "=1"}, {"a&", "=1"}, {"a^", "=1"}, {"a|", "=1"}, {"a<", "<=1"},
            {"a<<", "=1"}, {"a>>", "=1"}, {"a=", "=1"}, {"0", "x1"}, {"0x", "1"}, {"1", "0"}, {"a", "b"}, {"a", "1"}};
        for (String[] half : halves) {
            for (String blank : BLANKS) {
                Calls.dueError(half[0] + blank + half[1]);
            }
        }
    }

    /** Promise 3, terms: "the name not followed by == ". */
    private static void nameNotFollowedByTwo() {
        String[] blanks = {"", " ", "\t", "\n", "  "};
        for (String blank : blanks) {
            ShellSum sum = new ShellSum();
            Calls.put(sum, "b", "4");
            Calls.due("promise 3, b==4", Calls.answer(sum, "b" + blank + "==4"), 1L);
            Calls.due("promise 3, b==5", Calls.answer(sum, "b" + blank + "==5"), 0L);
            Calls.due("promise 3, (b==4)", Calls.answer(sum, "(b" + blank + "==4)"), 1L);
            Calls.due("promise 3, b==b==1", Calls.answer(sum, "b" + blank + "==b==1"), 1L);
            Calls.due("promise 3, c=b==4", Calls.answer(sum, "c=b" + blank + "==4"), 1L);
            Calls.due("promise 3, 1?b==4:0", Calls.answer(sum, "1?b" + blank + "==4:0"), 1L);
            Calls.due("promise 3, b===4", Calls.answer(sum, "b" + blank + "===4"), Calls.ERROR);
            Calls.due("promise 3, b<=4", Calls.answer(sum, "b" + blank + "<=4"), 1L);
            Calls.due("promise 3, b>=5", Calls.answer(sum, "b" + blank + ">=5"), 0L);
            Calls.due("promise 3, b!=5", Calls.answer(sum, "b" + blank + "!=5"), 1L);
            Calls.dueText(sum, "b", "4");
        }
    }
}
