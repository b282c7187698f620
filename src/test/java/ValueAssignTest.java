/** Promise 3, terms: assignments, and what names have after an error. */
public final class ValueAssignTest {
    private static final String[] ASSIGNING = {"=", "*=", "/=", "%=", "+=", "-=", "<<=", ">>=", "&=", "^=", "|="};

    public static void main(String[] args) {
        eachSign();
        noOtherSign();
        decimalTexts();
        valueOfIt();
        order();
        sixtyFifthName();
        sixtyFifthNameNotGot();
        staysBeforeAnError();
        changesNothingInError();
        Calls.end();
    }

    /** Promise 3, terms: "E: NAME S E, S one of = *= /= %= += -= <<= >>= &= ^= |= ". */
    private static void eachSign() {
        dueAssign("100", "b=7", "7");
        dueAssign("100", "b*=7", "700");
        dueAssign("100", "b/=7", "14");
        dueAssign("-100", "b%=7", "-2");
        dueAssign("100", "b+=7", "107");
        dueAssign("100", "b-=7", "93");
        dueAssign("100", "b<<=7", "12800");
        dueAssign("-100", "b>>=2", "-25");
        dueAssign("100", "b&=7", "4");
        dueAssign("100", "b^=7", "99");
        dueAssign("100", "b|=7", "103");
        dueAssign("100", "b = 1 ? 2 : 3", "2");
        dueAssign("100", "b -= 2 - 1", "99");
        dueAssign("100", "b=-7", "-7");
        dueAssign("100", "b-=-7", "107");
        dueAssign("100", "b=!7", "0");
        dueAssign("100", "b=~7", "-8");
        dueAssign("100", "b=b+b", "200");
        dueAssign("", "b-=3", "-3");
        dueAssign("0x10", "b+=0", "16");
        dueAssign("-010", "b+=0", "-8");
        for (String sign : ASSIGNING) {
            Calls.dueError("b" + sign);
            Calls.dueError(sign + "7");
            Calls.dueError("7" + sign + "7");
            Calls.dueError("(b)" + sign + "7");
            Calls.dueError("-b" + sign + "7");
            Calls.dueError("1+b" + sign + "7");
            Calls.dueError("b" + sign + " =7");
        }
    }

    /** Promise 3, terms: "S one of = *= ..": no other sign gives a name a text. */
    private static void noOtherSign() {
        String[] others = {"==", "!=", "<=", ">=", "||=", "&&=", "~=", "**=", "++", "--", ":=", "=:", "<>=", "<<<=", ">>>=", "=+=", "?="};
        for (String sign : others) {
            ShellSum sum = new ShellSum();
            Calls.put(sum, "b", "1");
            Calls.answer(sum, "b" + sign + "7");
            Calls.dueText(sum, "b", "1");
        }
    }

    /** Promise 3, terms: "the name has the decimal text of it then (- ahead, if it is below 0)". */
    private static void decimalTexts() {
        long[] values = {0, 1, -1, 1234567890, -1234567890123456789L, Long.MAX_VALUE, Long.MAX_VALUE - 1, -Long.MAX_VALUE, Long.MIN_VALUE};
        for (long value : values) {
            dueDecimal(value);
        }
        long power = 1;
        for (int i = 0; i < 19; i++) {
            dueDecimal(power - 1);
            dueDecimal(power);
            dueDecimal(power + 1);
            dueDecimal(1 - power);
            dueDecimal(-power);
            dueDecimal(-power - 1);
            power *= 10;
        }
        dueAssign("5", "b=0x1F", "31");
        dueAssign("5", "b=017", "15");
        dueAssign("5", "b=-0", "0");
        dueAssign("5", "b=00", "0");
        dueAssign("5", "b=18446744073709551615", "-1");
        dueAssign("5", "b=9223372036854775808", "-9223372036854775808");
    }

    private static void dueDecimal(long value) {
        ShellSum sum = new ShellSum();
        Calls.put(sum, "c", "12345678");
        Calls.due("promise 3, value of c=" + value, Calls.answer(sum, "c=" + value), value);
        Calls.dueText(sum, "c", Long.toString(value));
        Calls.due("promise 3, c after it", Calls.answer(sum, "c"), value);
    }

    /** Promise 3, terms: "it is the value". */
    private static void valueOfIt() {
        ShellSum sum = new ShellSum();
        Calls.put(sum, "a", "3");
        Calls.due("promise 3, the sum, not what was added", Calls.answer(sum, "a+=4"), 7L);
        Calls.due("promise 3, in brackets", Calls.answer(sum, "(a-=5)*10+a"), 22L);
        Calls.due("promise 3, from the right", Calls.answer(sum, "a=b=c=4"), 4L);
        Calls.due("promise 3, signs from the right", Calls.answer(sum, "a+=b*=c-=2"), 12L);
        Calls.dueText(sum, "a", "12");
        Calls.dueText(sum, "b", "8");
        Calls.dueText(sum, "c", "2");
    }

    /** Promise 3, terms: "S: E is reckoned, with a sign ahead of = then the name's value and that". */
    private static void order() {
        ShellSum sum = new ShellSum();
        Calls.answer(sum, "a=1");
        Calls.due("promise 3, E first, then the name", Calls.answer(sum, "a+=(a=5)"), 10L);
        Calls.due("promise 3, the name's value comes first of both", Calls.answer(sum, "a-=3"), 7L);
        Calls.answer(sum, "a=3");
        Calls.due("promise 3, read before it changes", Calls.answer(sum, "a*10+(a=5)"), 35L);
        Calls.due("promise 3, read after it changed", Calls.answer(sum, "(a=6)+a*10"), 66L);
        Calls.due("promise 3, in a choice", Calls.answer(sum, "(a=0)?a:a+1"), 1L);
        Calls.due("promise 3, itself in itself", Calls.answer(sum, "a=a=a+=9"), 9L);
        Calls.due("promise 3, E with its own text", Calls.answer(sum, "x=(y=3)*(y=y+1)+y"), 16L);
        Calls.put(sum, "bad", "x");
        Calls.due("promise 3, a name that E gives a number", Calls.answer(sum, "bad+=(bad=4)"), 8L);
        Calls.put(sum, "bad", "x");
        Calls.due("promise 3, = alone looks at no text", Calls.answer(sum, "bad=4"), 4L);
    }

    private static void dueAssign(String before, String text, String after) {
        ShellSum sum = new ShellSum();
        Calls.put(sum, "b", before);
        Calls.due("promise 3, " + text + " with " + before, Calls.answer(sum, text), Long.parseLong(after));
        Calls.dueText(sum, "b", after);
    }

    /** Promise 3, terms: "ERRORS: .. a 65th name that would get a text". */
    private static void sixtyFifthName() {
        long[] fromNothing = {1, 0, 0, 0, 1, -1, 0, 0, 0, 1, 1};
        for (int i = 0; i < ASSIGNING.length; i++) {
            String sign = ASSIGNING[i];
            ShellSum sum = new ShellSum();
            Calls.fill(sum, 63);
            Calls.due("promise 3, a 64th name with " + sign, Calls.answer(sum, "x" + sign + "1"), fromNothing[i]);
            Calls.due("promise 3, a 65th name with " + sign, Calls.answer(sum, "y" + sign + "1"), Calls.ERROR);
            Calls.dueText(sum, "y", null);
            Calls.due("promise 3, one of 64 names with " + sign, Calls.answer(sum, "n1" + sign + "1") != Calls.ERROR, true);
            Calls.due("promise 3, names with a text", sum.count(1), 64);
        }
        ShellSum many = new ShellSum();
        Calls.fill(many, 62);
        Calls.due("promise 3, two more and one too many", Calls.answer(many, "(p=1)+(q=2)+(r=3)+(p=4)"), Calls.ERROR);
        Calls.dueText(many, "p", "1");
        Calls.dueText(many, "q", "2");
        Calls.dueText(many, "r", null);
        Calls.due("promise 3, two too many", Calls.answer(many, "s=r=p=5"), Calls.ERROR);
        Calls.dueText(many, "p", "5");
        Calls.name(many, "n0");
        many.drop();
        Calls.due("promise 3, a 64th name again", Calls.answer(many, "r=9"), 9L);
        Calls.due("promise 3, a 65th that was one of 64", Calls.answer(many, "n0=9"), Calls.ERROR);
    }

    /** Promise 3, terms: "that would get a text": reading a 65th name, or not needing it, is no error. */
    private static void sixtyFifthNameNotGot() {
        ShellSum sum = new ShellSum();
        Calls.fill(sum, 64);
        Calls.due("promise 3, a 65th name that is read", Calls.answer(sum, "y+3"), 3L);
        Calls.due("promise 3, a 65th name behind &&", Calls.answer(sum, "0&&(y=1)"), 0L);
        Calls.due("promise 3, a 65th name behind ||", Calls.answer(sum, "1||(y=1)"), 1L);
        Calls.due("promise 3, a 65th name behind ?", Calls.answer(sum, "0?y=1:2"), 2L);
        Calls.due("promise 3, a 65th name behind :", Calls.answer(sum, "1?2:(y=1)"), 2L);
        Calls.due("promise 3, names with a text", sum.count(1), 64);
        Calls.due("promise 3, texts without an error", sum.count(3), 5);
        Calls.put(sum, "n1", "");
        Calls.due("promise 3, an empty text is one of 64", Calls.answer(sum, "y=1"), Calls.ERROR);
        Calls.due("promise 3, an empty text of 64 changes", Calls.answer(sum, "n1=1"), 1L);
    }

    /** Promise 3, terms: "What names got before it stays (it is reckoned as it is read, from the left)." */
    private static void staysBeforeAnError() {
        String[] texts = {"b=5 6", "b=5)", "(b=5", "b=5 $", "(b=5)+", "(b=5)/0", "(b=5)+1/0", "b=5=6", "1?b=5", "1?b=5:", "1?b=5:08", "c=(b=5)+",
            "c=(b=5)/0", "(b=5)+bad", "bad+=(b=5)", "c=(b=5)*bad", "(b=5)(", "(b=5)+09", "((b=5)", "b=5:", "(b=5)||", "c=b=5 c", "b=5!6", "b=5~6",
            "(b=2)+(b=5)+", "(b=5)+(" + "-".repeat(40) + "1)", "(b=5)+" + "(".repeat(41), "b+=4 4", "c/=(b=5)*0", "(b=5)?:1", "0?b=6:(b=5)+"};
        for (String text : texts) {
            ShellSum sum = inError(text);
            Calls.dueText(sum, "b", "5");
        }
        ShellSum both = inError("(b=5)*(c=6)/(d=0)+(e=7)");
        Calls.dueText(both, "b", "5");
        Calls.dueText(both, "c", "6");
        Calls.dueText(both, "d", "0");
        Calls.dueText(both, "e", null);
    }

    /** Promise 3, terms: "before it": what stands behind the error, or is not whole when it comes, changes nothing. */
    private static void changesNothingInError() {
        String[] texts = {"b=", "b=5+", "b=5/0", "b/=0", "b%=0", "b=bad", "bad+=b", "c=1/0", "1/0+(b=5)", "1/0*(b=5)", "08+(b=5)", "bad+(b=5)",
            "1 (b=5)", "b=(5", "b=5?6", "0?5:b=6", "b=08", "1 b=5", "1+b=5", "$b=5", "b=5 +", "(b+=5/0)", "1/0?b=5:(b=6)", "1/0||(b=5)", "0?b=5:",
            "0&&(b=5)+", "1||(b=5)08", "b=1?5:", "b=5<<", "b=-", "-".repeat(41) + "(b=5)", "a=".repeat(40) + "b=5"};
        for (String text : texts) {
            ShellSum sum = inError(text);
            Calls.dueText(sum, "b", "1");
            Calls.dueText(sum, "bad", "x");
            Calls.due("promise 3, names with a text after " + text, sum.count(1), 2);
        }
    }

    private static ShellSum inError(String text) {
        ShellSum sum = new ShellSum();
        Calls.put(sum, "bad", "x");
        Calls.put(sum, "b", "1");
        Calls.due("promise 3, value of " + text, Calls.answer(sum, text), Calls.ERROR);
        return sum;
    }
}
