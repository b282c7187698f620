/** Promise 3, terms: the ranks of the signs of two, and which sign stands there. */
public final class ValueRanksTest {
    private static final String[][] RANKS = {{"||"}, {"&&"}, {"|"}, {"^"}, {"&"}, {"==", "!="}, {"<", "<=", ">", ">="}, {"<<", ">>"},
        {"+", "-"}, {"*", "/", "%"}};
    private static final int[] OPERANDS = {0, 1, 2, 3, 5, 12};

    public static void main(String[] args) {
        for (int one = 0; one < RANKS.length; one++) {
            for (int two = 0; two < RANKS.length; two++) {
                for (String first : RANKS[one]) {
                    for (String second : RANKS[two]) {
                        // a*b<<c comes to the same in both ways, whatever a, b and c are.
                        boolean same = first.equals("*") && second.equals("<<");
                        dueBound(first, second, one >= two, one != two && !same);
                    }
                }
            }
        }
        fromTheLeft();
        wholeRows();
        longest();
        noneOfTwo();
        Calls.end();
    }

    /**
     * Promise 3, terms: "they bind, from the loosest on: || ; && ; | ; ^ ; & ; == != ; < <= > >= ; << >> ; + - ; * / %" and
     * "of one rank from the left": two signs come to what they do with brackets round those that bind.
     */
    private static void dueBound(String first, String second, boolean leftBinds, boolean mustDiffer) {
        boolean differs = false;
        for (int i = 0; i < OPERANDS.length * OPERANDS.length * OPERANDS.length; i++) {
            int a = OPERANDS[i % OPERANDS.length];
            int b = OPERANDS[i / OPERANDS.length % OPERANDS.length];
            int c = OPERANDS[i / OPERANDS.length / OPERANDS.length];
            Object left = Calls.answer(new ShellSum(), "(" + a + first + b + ")" + second + c);
            Object right = Calls.answer(new ShellSum(), a + first + "(" + b + second + c + ")");
            String text = a + first + b + second + c;
            Calls.due("promise 3, value of " + text, Calls.answer(new ShellSum(), text), leftBinds ? left : right);
            differs = differs || !left.equals(right);
        }
        if (mustDiffer) {
            Calls.due("promise 3, whether some operands tell " + first + " and " + second, differs, true);
        }
    }

    /** Promise 3, terms: "of one rank from the left". */
    private static void fromTheLeft() {
        Calls.dueValue("10-3-2", 5);
        Calls.dueValue("10-3+2", 9);
        Calls.dueValue("100/10*2", 20);
        Calls.dueValue("2*7%4*3", 6);
        Calls.dueValue("100/10/5", 2);
        Calls.dueValue("1<<2<<3", 32);
        Calls.dueValue("256>>2<<1", 128);
        Calls.dueValue("3>2>1", 0);
        Calls.dueValue("1<2<=1>=1", 1);
        Calls.dueValue("5==5==1", 1);
        Calls.dueValue("5!=4!=1", 0);
        Calls.dueValue("10-(3-2)", 9);
    }

    /** Promise 3, terms: all ranks in one text, and as many signs as a text can hold. */
    private static void wholeRows() {
        Calls.dueValue("1||0&&0|0^0&0==0<0<<0+0*0", 1);
        Calls.dueValue("2*3+1<<2<30==1&3^5|8&&1||0", 1);
        Calls.dueValue("8|4^6&7==3<1<<2+5*1", 12);
        Calls.dueValue("(2+3)*4", 20);
        Calls.dueValue("1" + "+1".repeat(149), 150);
        Calls.dueValue("0" + "-1".repeat(149), -149);
        Calls.dueValue("0||1&&1|1^1&1==1<1<<1+1*(".repeat(8) + "1" + ")".repeat(8), 1);
        // Here 126 signs stand open at once.
        Calls.dueValue("1|1^1&1<1+1*(".repeat(21) + "1" + ")".repeat(21), 1);
    }

    /** Promise 3, terms: "a sign is the longest that fits": none is read as two shorter ones, or as one with more behind it. */
    private static void longest() {
        Calls.dueValue("4<<1", 8);
        Calls.dueValue("4>>1", 2);
        Calls.dueValue("4<=4", 1);
        Calls.dueValue("4>=4", 1);
        Calls.dueValue("4==4", 1);
        Calls.dueValue("4!=4", 0);
        Calls.dueValue("4||3", 1);
        Calls.dueValue("4&&3", 1);
        Calls.dueValue("1<-1", 0);
        Calls.dueValue("4&~3", 4);
        Calls.dueValue("4!=!4", 1);
        String[] wrong = {"1|||0", "0&&&1", "1||||1", "1<<<2", "8>>>1", "1<><2", "1<>2", "1=>1", "1=<1", "1===1", "1!==1", "1<==1", "1>==1", "1&|1",
            "1|&1", "1^^1", "1**1", "1//1", "1%%1", "1||=2", "1&&=2", "1!!=1", "1=!1"};
        for (String text : wrong) {
            Calls.dueError(text);
        }
    }

    /**
     * Promise 3, terms: "and none of two if it is | ^ & << >> + - * / % with = just behind it": the E of an assignment has
     * ended ahead of such a sign, so that b has its text when the error comes; it has not ended ahead of another sign.
     */
    private static void noneOfTwo() {
        String[] none = {"|", "^", "&", "<<", ">>", "+", "-", "*", "/", "%"};
        for (String sign : none) {
            Calls.dueError("1" + sign + "=2");
            Calls.dueError("(1)" + sign + "=2");
            Calls.dueError("1+a" + sign + "=2");
            dueLeft("b=5" + sign + "=6", "5");
            dueLeft("b=5 " + sign + "=6", "5");
            dueLeft("b=5" + sign + " =6", "1");
            dueLeft("b=5" + sign + "==6", "5");
        }
        String[] signs = {"||", "&&", "==", "!=", "<=", ">="};
        for (String sign : signs) {
            dueLeft("b=5" + sign + "=6", "1");
        }
        String[] noSigns = {"!6", "~6", "=6", "!", "~", "=", " 6", "(6)", ")", ":6", "$", " b"};
        for (String behind : noSigns) {
            dueLeft("b=5" + behind, "5");
        }
    }

    private static void dueLeft(String text, String want) {
        ShellSum sum = new ShellSum();
        Calls.put(sum, "b", "1");
        Calls.due("promise 3, value of " + text, Calls.answer(sum, text), Calls.ERROR);
        Calls.dueText(sum, "b", want);
    }
}
