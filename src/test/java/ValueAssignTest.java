/** Promise 3, value: assignments, and what names have after an error. */
public final class ValueAssignTest {
    public static void main(String[] args) {
        eachSign();
        decimalTexts();
        order();
        notFollowedByTwo();
        staysBeforeAnError();
        changesNothingInError();
        sixtyFifthName();
        Calls.end();
    }

    private static void eachSign() {
        dueAssign("100", "b=7", "7");
        dueAssign("100", "b*=7", "700");
        dueAssign("100", "b/=7", "14");
        dueAssign("-100", "b%=7", "-2");
        dueAssign("100", "b+=7", "107");
        dueAssign("100", "b-=7", "93");
        dueAssign("100", "b<<=7", "12800");
        dueAssign("-100", "b>>=2", "-25");
        dueAssign("100", "b&=7", "4");
        dueAssign("100", "b^=7", "99");
        dueAssign("100", "b|=7", "103");
        dueAssign("100", "b = 1 ? 2 : 3", "2");
        dueAssign("100", "b -= 2 - 1", "99");
        dueAssign("100", "b=-7", "-7");
        dueAssign("100", "b-=-7", "107");
        dueAssign("100", "b=!7", "0");
        dueAssign("100", "b=b+b", "200");
        dueAssign("", "b-=3", "-3");
        dueAssign("0x10", "b+=0", "16");
        dueAssign("-010", "b+=0", "-8");
        ShellSum sum = new ShellSum();
        Calls.due("b of none", Calls.answer(sum, "b+=4"), 4L);
        Calls.dueText(sum, "b", "4");
    }

    private static void dueAssign(String before, String text, String after) {
        ShellSum sum = new ShellSum();
        Calls.put(sum, "b", before);
        Calls.due(text + " with " + before, Calls.answer(sum, text), Long.parseLong(after));
        Calls.dueText(sum, "b", after);
    }

    private static void decimalTexts() {
        long[] values = {0, 1, -1, 9, 10, -9, -10, 99, 100, 1234567890, -1234567890123456789L, Long.MAX_VALUE, -Long.MAX_VALUE,
            Long.MIN_VALUE};
        ShellSum sum = new ShellSum();
        for (long value : values) {
            Calls.due("c of " + value, Calls.answer(sum, "c=" + value), value);
            Calls.dueText(sum, "c", Long.toString(value));
            Calls.due("c", Calls.answer(sum, "c"), value);
        }
        long power = 1;
        for (int i = 0; i < 19; i++) {
            for (long value = power - 1; value <= power; value++) {
                Calls.answer(sum, "c=" + value);
                Calls.dueText(sum, "c", Long.toString(value));
                Calls.answer(sum, "c=-" + value);
                Calls.dueText(sum, "c", Long.toString(-value));
            }
            power *= 10;
        }
    }

    private static void order() {
        ShellSum sum = new ShellSum();
        Calls.due("from the right", Calls.answer(sum, "a=b=c=4"), 4L);
        Calls.dueText(sum, "a", "4");
        Calls.dueText(sum, "b", "4");
        Calls.dueText(sum, "c", "4");
        Calls.due("signs from the right", Calls.answer(sum, "a+=b*=c-=2"), 12L);
        Calls.dueText(sum, "a", "12");
        Calls.dueText(sum, "b", "8");
        Calls.dueText(sum, "c", "2");
        Calls.due("E first, then the name", Calls.answer(sum, "a-=(a=5)"), 0L);
        Calls.answer(sum, "a=3");
        Calls.due("read before it changes", Calls.answer(sum, "a*10+(a=5)"), 35L);
        Calls.due("read after it changed", Calls.answer(sum, "(a=6)+a*10"), 66L);
        Calls.due("in a choice", Calls.answer(sum, "(a=0)?a:a+1"), 1L);
        Calls.due("itself in itself", Calls.answer(sum, "a=a=a+=9"), 9L);
        Calls.due("E with its own text", Calls.answer(sum, "x=(y=3)*(y=y+1)+y"), 16L);
    }

    private static void notFollowedByTwo() {
        ShellSum sum = new ShellSum();
        Calls.put(sum, "b", "4");
        Calls.due("b==4", Calls.answer(sum, "b==4"), 1L);
        Calls.due("b == 5", Calls.answer(sum, "b == 5"), 0L);
        Calls.due("b<=4", Calls.answer(sum, "b<=4"), 1L);
        Calls.due("b>=5", Calls.answer(sum, "b>=5"), 0L);
        Calls.due("b!=5", Calls.answer(sum, "b!=5"), 1L);
        Calls.due("b=b==4", Calls.answer(sum, "c=b==4"), 1L);
        Calls.dueText(sum, "b", "4");
    }

    private static void staysBeforeAnError() {
        String[] texts = {"b=5 6", "b=5)", "(b=5", "b=5 $", "(b=5)+", "(b=5)/0", "(b=5)+1/0", "b=5=6", "1?b=5", "1?b=5:", "1?b=5:08", "c=(b=5)+",
            "c=(b=5)/0", "(b=5)+bad", "(b=5)(", "(b=5)+09", "((b=5)", "b=5:", "(b=5)||", "c=b=5 c", "(b=5)+(" + "-".repeat(40) + "1)"};
        for (String text : texts) {
            dueAfterError(text, "5");
        }
        // A sign with = just behind it is none of two, so that the assignment ends ahead of it.
        String[] ended = {"b=5|=6", "b=5^=6", "b=5&=6", "b=5<<=6", "b=5>>=6", "b=5+=6", "b=5-=6", "b=5*=6", "b=5/=6", "b=5%=6", "b=5!6", "b=5~6"};
        for (String text : ended) {
            dueAfterError(text, "5");
        }
        String[] unended = {"b=5||=6", "b=5&&=6", "b=5===6", "b=5!==6", "b=5<==6", "b=5>==6", "b=5<=", "b=5>=", "b=5+ =6", "b=5<< =6"};
        for (String text : unended) {
            dueAfterError(text, "1");
        }
    }

    private static void dueAfterError(String text, String want) {
        ShellSum sum = new ShellSum();
        Calls.put(sum, "bad", "x");
        Calls.put(sum, "b", "1");
        Calls.due("value of " + text, Calls.answer(sum, text), Calls.ERROR);
        Calls.dueText(sum, "b", want);
    }

    private static void changesNothingInError() {
        String[] texts = {"b=", "b=5+", "b=5/0", "b/=0", "b%=0", "b=bad", "bad+=b", "c=1/0", "1/0+(b=5)", "1/0*(b=5)", "08+(b=5)", "bad+(b=5)",
            "1 (b=5)", "b=(5", "b=5?6", "0?5:b=6", "b=08", "1 b=5", "1+b=5", "$b=5", "b=5 +", "(b+=5/0)"};
        for (String text : texts) {
            ShellSum sum = new ShellSum();
            Calls.put(sum, "bad", "x");
            Calls.put(sum, "b", "1");
            Calls.due("value of " + text, Calls.answer(sum, text), Calls.ERROR);
            Calls.dueText(sum, "b", "1");
            Calls.dueText(sum, "bad", "x");
            Calls.due("names with a text after " + text, sum.count(1), 2);
        }
    }

    private static void sixtyFifthName() {
        ShellSum sum = new ShellSum();
        Calls.fill(sum, 63);
        Calls.due("a 64th name", Calls.answer(sum, "x=1"), 1L);
        Calls.due("a 65th name", Calls.answer(sum, "y=(x=2)"), Calls.ERROR);
        Calls.dueText(sum, "x", "2");
        Calls.dueText(sum, "y", null);
        Calls.due("a 65th name with a sign", Calls.answer(sum, "y|=1"), Calls.ERROR);
        Calls.due("a 65th name that is not needed", Calls.answer(sum, "0&&(y=1)"), 0L);
        Calls.due("a 65th name that is read", Calls.answer(sum, "y+3"), 3L);
        Calls.due("one of 64 names", Calls.answer(sum, "n62+=x"), 64L);
        Calls.due("names with a text", sum.count(1), 64);
        Calls.name(sum, "n0");
        sum.drop();
        Calls.due("a 64th name again", Calls.answer(sum, "y=9"), 9L);
        Calls.due("names with a text", sum.count(1), 64);
        ShellSum many = new ShellSum();
        Calls.fill(many, 62);
        Calls.due("two more and one too many", Calls.answer(many, "(p=1)+(q=2)+(r=3)+(p=4)"), Calls.ERROR);
        Calls.dueText(many, "p", "1");
        Calls.dueText(many, "q", "2");
        Calls.dueText(many, "r", null);
    }
}
