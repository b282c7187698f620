/** Promise 3, value: what the signs of one and of two, the brackets and the choices come to. */
public final class ValueSignsTest {
    private static final long LEAST = Long.MIN_VALUE;
    private static final long MOST = Long.MAX_VALUE;

    public static void main(String[] args) {
        nothing();
        eachSign();
        edges();
        ranks();
        fromTheLeft();
        ones();
        choices();
        blanks();
        noTexts();
        Calls.end();
    }

    private static void nothing() {
        String[] texts = {"", " ", "\t", "\n", " \n\t ", " ".repeat(300)};
        for (String text : texts) {
            Calls.dueValue(text, 0);
        }
        ShellSum sum = new ShellSum();
        Calls.answer(sum, "1 2");
        Calls.due("text is empty after an error", Calls.value(sum), 0L);
        Calls.answer(sum, "12");
        Calls.due("text is empty after a value", Calls.value(sum), 0L);
    }

    private static void eachSign() {
        Calls.dueValue("0||0", 0);
        Calls.dueValue("0||7", 1);
        Calls.dueValue("7||0", 1);
        Calls.dueValue("-7||-7", 1);
        Calls.dueValue("7&&0", 0);
        Calls.dueValue("0&&7", 0);
        Calls.dueValue("7&&-3", 1);
        Calls.dueValue("12|10", 14);
        Calls.dueValue("12^10", 6);
        Calls.dueValue("12&10", 8);
        Calls.dueValue("3==3", 1);
        Calls.dueValue("3==4", 0);
        Calls.dueValue("3!=3", 0);
        Calls.dueValue("3!=4", 1);
        long[][] compared = {{3, 4}, {3, 3}, {4, 3}, {-1, 0}, {LEAST, MOST}, {MOST, LEAST}};
        for (long[] two : compared) {
            Calls.dueValue(two[0] + "<" + two[1], two[0] < two[1] ? 1 : 0);
            Calls.dueValue(two[0] + "<=" + two[1], two[0] <= two[1] ? 1 : 0);
            Calls.dueValue(two[0] + ">" + two[1], two[0] > two[1] ? 1 : 0);
            Calls.dueValue(two[0] + ">=" + two[1], two[0] >= two[1] ? 1 : 0);
        }
        Calls.dueValue("3<<4", 48);
        Calls.dueValue("48>>3", 6);
        Calls.dueValue("3+4", 7);
        Calls.dueValue("3-4", -1);
        Calls.dueValue("3*-4", -12);
        Calls.dueValue("17/5", 3);
        Calls.dueValue("17%5", 2);
    }

    private static void edges() {
        Calls.dueValue("9223372036854775807+1", LEAST);
        Calls.dueValue("-9223372036854775808-1", MOST);
        Calls.dueValue("-9223372036854775808*-1", LEAST);
        Calls.dueValue("--9223372036854775808", LEAST);
        Calls.dueValue("4294967296*4294967296", 0);
        Calls.dueValue("-17/5", -3);
        Calls.dueValue("17/-5", -3);
        Calls.dueValue("-17/-5", 3);
        Calls.dueValue("-17%5", -2);
        Calls.dueValue("17%-5", 2);
        Calls.dueValue("-9223372036854775808/-1", LEAST);
        Calls.dueValue("-9223372036854775808%-1", 0);
        Calls.dueValue("1<<63", LEAST);
        Calls.dueValue("1<<64", 1);
        Calls.dueValue("1<<65", 2);
        Calls.dueValue("1<<-1", LEAST);
        Calls.dueValue("3<<4294967297", 6);
        Calls.dueValue("-8>>1", -4);
        Calls.dueValue("-1>>63", -1);
        Calls.dueValue("-8>>64", -8);
        Calls.dueValue("-9223372036854775808>>-1", -1);
        Calls.dueError("1/0");
        Calls.dueError("1%0");
        Calls.dueError("0/0");
        Calls.dueError("1/(3-3)");
        Calls.dueError("-9223372036854775808%a");
    }

    private static void ranks() {
        Calls.dueValue("1||0&&0", 1);
        Calls.dueValue("0&&0||1", 1);
        Calls.dueValue("2&&0|2", 1);
        Calls.dueValue("1|3^1", 3);
        Calls.dueValue("1^3&2", 3);
        Calls.dueValue("6&2==2", 0);
        Calls.dueValue("6&1==1", 0);
        Calls.dueValue("7&1==1", 1);
        Calls.dueValue("2==1<2", 0);
        Calls.dueValue("1!=3>2", 0);
        Calls.dueValue("1<1<<1", 1);
        Calls.dueValue("1<<1+1", 4);
        Calls.dueValue("16>>1+1", 4);
        Calls.dueValue("2+3*4", 14);
        Calls.dueValue("2*3+4", 10);
        Calls.dueValue("20-7%4", 17);
        Calls.dueValue("20-8/4", 18);
        Calls.dueValue("1||0&&0|0^0&0==0<0<<0+0*0", 1);
        Calls.dueValue("2*3+1<<2<30==1&3^5|8&&1||0", 1);
        Calls.dueValue("8|4^6&7==3<1<<2+5*1", 12);
        Calls.dueValue("(2+3)*4", 20);
    }

    private static void fromTheLeft() {
        Calls.dueValue("10-3-2", 5);
        Calls.dueValue("100/10*2", 20);
        Calls.dueValue("2*7%4*3", 6);
        Calls.dueValue("100/10/5", 2);
        Calls.dueValue("1<<2<<3", 32);
        Calls.dueValue("256>>2<<1", 128);
        Calls.dueValue("3>2>1", 0);
        Calls.dueValue("1<2<=1>=1", 1);
        Calls.dueValue("5==5==1", 1);
        Calls.dueValue("5!=4!=1", 0);
        Calls.dueValue("10-(3-2)", 9);
    }

    private static void ones() {
        Calls.dueValue("-5", -5);
        Calls.dueValue("+5", 5);
        Calls.dueValue("!5", 0);
        Calls.dueValue("!0", 1);
        Calls.dueValue("~5", -6);
        Calls.dueValue("- -5", 5);
        Calls.dueValue("--5", 5);
        Calls.dueValue("-+~!0", 2);
        Calls.dueValue("3--5", 8);
        Calls.dueValue("3++5", 8);
        Calls.dueValue("3+-+-5", 8);
        Calls.dueValue("3*-2", -6);
        Calls.dueValue("-2*-3", 6);
        Calls.dueValue("!0+1", 2);
        Calls.dueValue("!(0+1)", 0);
        Calls.dueValue("1!=!1", 1);
        Calls.dueValue("~0==-1", 1);
        Calls.dueValue("!!7", 1);
        Calls.dueValue("6&&!0", 1);
    }

    private static void choices() {
        Calls.dueValue("1?2:3", 2);
        Calls.dueValue("0?2:3", 3);
        Calls.dueValue("-1?2:3", 2);
        Calls.dueValue("0?1:0?2:3", 3);
        Calls.dueValue("0?1:1?2:3", 2);
        Calls.dueValue("1?0?4:5:6", 5);
        Calls.dueValue("1?1?4:5:6", 4);
        Calls.dueValue("0||1?2+3:4", 5);
        Calls.dueValue("0?2:3+4", 7);
        Calls.dueValue("2*(1?2:3)", 4);
        Calls.dueValue("1?b=5:6", 5);
        Calls.dueValue("0?5:(b=6)", 6);
        Calls.dueError("0?5:b=6");
        Calls.dueError("1?2");
        Calls.dueError("1?2:");
        Calls.dueError("1?:3");
        Calls.dueError("?2:3");
        Calls.dueError("1:2");
        Calls.dueError("1?2:3:4");
        Calls.dueError("1?(2:3)");
    }

    private static void blanks() {
        Calls.dueValue(" \t1\n+ 2 ", 3);
        Calls.dueValue("( 1 ) * ( 2 )", 2);
        Calls.dueValue("- 5", -5);
        Calls.dueValue("1 ? 2 : 3", 2);
        Calls.dueValue("a\n=\t4", 4);
        Calls.dueValue("a <<= 4", 0);
        String[] apart = {"1 2", "a b", "1 | | 2", "1 & & 1", "1 < < 2", "1 > > 2", "1 = = 1", "1 ! = 2", "1 < = 2",
            "1 > = 2", "a + = 1", "a < <= 1", "a << = 1", "a = = 1", "0 x1", "1 0"};
        for (String text : apart) {
            Calls.dueError(text);
        }
    }

    private static void noTexts() {
        String[] texts = {"+", "-", "!", "~", "1+", "1*", "*1", "/1", "1**2", "1//2", "1|||0", "0&&&1", "1<<<2", "8>>>1",
            "1===1", "1=>1", "1=<1", "1!==1", "1=1", "1+=2", "1<<=2", "1>>=2", "1|=2", "1||=2", "1&&=2", "(1)=2", "(a)=2",
            "-a=2", "1+a=2", "a==1=2", "(", ")", "()", "(1", "1)", "((1)", "(1))", "(1)(2)", "2(3)", "(2)3", "a(1)",
            "$", "1$", "$1", "1,2", "1;", "a.b", "\"1\"", "'1'", "[1]", "{1}", "#1", "@", "\\", "`1`", "1 ? 2 ; 3", "a++",
            "a--", "1!", "1~", "1~2", "=", "==", "=1", "a=", "a+=", "a=*1", "a<<", "a<<=", "a!=", "a!", "a==", "a<==1", "a*==1"};
        for (String text : texts) {
            Calls.dueError(text);
        }
    }
}
