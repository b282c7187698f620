import java.math.BigInteger;

/** Promise 3, terms: "VALUES have 64 bits". */
public final class ValueBitsTest {
    private static final long LEAST = Long.MIN_VALUE;
    private static final long MOST = Long.MAX_VALUE;
    private static final long[] SOME = {0, 1, -1, 2, -2, 3, 10, -10, 1L << 31, 1L << 32, -(1L << 32), MOST, -MOST, MOST - 1, LEAST, LEAST + 1};

    public static void main(String[] args) {
        goesRound();
        dividing();
        leastByMinusOne();
        dividingByZero();
        shifting();
        comparing();
        oneOrZero();
        Calls.end();
    }

    /** Promise 3, terms: "VALUES have 64 bits, all goes round". */
    private static void goesRound() {
        Calls.dueValue("9223372036854775807+1", LEAST);
        Calls.dueValue("9223372036854775807+9223372036854775807", -2);
        Calls.dueValue("-9223372036854775808-1", MOST);
        Calls.dueValue("-9223372036854775808*-1", LEAST);
        Calls.dueValue("--9223372036854775808", LEAST);
        Calls.dueValue("-9223372036854775808", LEAST);
        Calls.dueValue("4294967296*4294967296", 0);
        Calls.dueValue("b=9223372036854775807+1", LEAST);
        Calls.dueValue("(b=9223372036854775807)+(b+=1)", -1);
        Calls.dueValue("(b=-9223372036854775808)*0+(b-=1)", MOST);
        Calls.dueValue("(b=4611686018427387904)*0+(b*=2)", LEAST);
        for (long one : SOME) {
            for (long two : SOME) {
                BigInteger first = BigInteger.valueOf(one);
                BigInteger second = BigInteger.valueOf(two);
                Calls.dueValue(one + "+(" + two + ")", first.add(second).longValue());
                Calls.dueValue(one + "-(" + two + ")", first.subtract(second).longValue());
                Calls.dueValue(one + "*(" + two + ")", first.multiply(second).longValue());
                Calls.dueValue(one + "|" + two, one | two);
                Calls.dueValue(one + "^" + two, one ^ two);
                Calls.dueValue(one + "&" + two, one & two);
            }
        }
    }

    /** Promise 3, terms: "/ and % towards 0". */
    private static void dividing() {
        Calls.dueValue("-17/5", -3);
        Calls.dueValue("17/-5", -3);
        Calls.dueValue("-17/-5", 3);
        Calls.dueValue("-17%5", -2);
        Calls.dueValue("17%-5", 2);
        Calls.dueValue("-17%-5", -2);
        Calls.dueValue("-1/2", 0);
        Calls.dueValue("1/-2", 0);
        Calls.dueValue("-1%2", -1);
        for (long one : SOME) {
            for (long two : SOME) {
                if (two != 0) {
                    Calls.dueValue(one + "/" + two, BigInteger.valueOf(one).divide(BigInteger.valueOf(two)).longValue());
                    Calls.dueValue(one + "%" + two, BigInteger.valueOf(one).remainder(BigInteger.valueOf(two)).longValue());
                }
            }
        }
    }

    /** Promise 3, terms: "(least / -1 is itself, % 0)". */
    private static void leastByMinusOne() {
        Calls.dueValue("-9223372036854775808/-1", LEAST);
        Calls.dueValue("-9223372036854775808%-1", 0);
        Calls.dueValue("(1<<63)/~0", LEAST);
        Calls.dueValue("(1<<63)%~0", 0);
        Calls.dueValue("(b=1<<63)*0+(b/=-1)", LEAST);
        Calls.dueValue("(b=1<<63)*0+(b%=-1)", 0);
    }

    /** Promise 3, terms: "ERRORS: .. what divides by 0". */
    private static void dividingByZero() {
        String[] texts = {"1/0", "1%0", "0/0", "0%0", "1/00", "1/0x0", "1%-0", "1/(3-3)", "1/18446744073709551616", "1%a", "-9223372036854775808/0",
            "-9223372036854775808%0", "b/=0", "b%=0", "b/=a", "b=1/0", "1/!1", "5%(1<<63<<1)", "1/0*0", "0*1/0", "(1/0)", "-(1%0)", "1/0?1:1",
            "1/0||1", "1%0&&0"};
        for (String text : texts) {
            Calls.dueError(text);
        }
        Calls.dueValue("0/1", 0);
        Calls.dueValue("0%1", 0);
        Calls.dueValue("0/-1", 0);
        Calls.dueValue("1/4294967296", 0);
    }

    /** Promise 3, terms: "<< >> by the lowest 6 bits, >> keeps the sign". */
    private static void shifting() {
        Calls.dueValue("1<<0", 1);
        Calls.dueValue("1<<63", LEAST);
        Calls.dueValue("1<<64", 1);
        Calls.dueValue("1<<65", 2);
        Calls.dueValue("1<<-1", LEAST);
        Calls.dueValue("3<<4294967297", 6);
        Calls.dueValue("-8>>1", -4);
        Calls.dueValue("-1>>63", -1);
        Calls.dueValue("-1>>1", -1);
        Calls.dueValue("1>>63", 0);
        Calls.dueValue("-8>>64", -8);
        Calls.dueValue("-9223372036854775808>>-1", -1);
        Calls.dueValue("9223372036854775807>>62", 1);
        Calls.dueValue("(b=-8)*0+(b>>=65)", -4);
        Calls.dueValue("(b=-8)*0+(b<<=65)", -16);
        long[] by = {0, 1, 31, 32, 33, 62, 63, 64, 65, 127, 128, 1L << 32, (1L << 32) + 1, -1, -63, -64, -65, MOST, LEAST};
        for (long one : SOME) {
            for (long bits : by) {
                BigInteger first = BigInteger.valueOf(one);
                int lowest = (int) Math.floorMod(bits, 64L);
                Calls.dueValue(one + "<<" + bits, first.shiftLeft(lowest).longValue());
                Calls.dueValue(one + ">>" + bits, first.shiftRight(lowest).longValue());
            }
        }
    }

    /** Promise 3, terms: "comparing .. give 1 or 0": of all 64 bits, with their sign. */
    private static void comparing() {
        for (long one : SOME) {
            for (long two : SOME) {
                Calls.dueValue(one + "==" + two, one == two ? 1 : 0);
                Calls.dueValue(one + "!=" + two, one != two ? 1 : 0);
                Calls.dueValue(one + "<" + two, one < two ? 1 : 0);
                Calls.dueValue(one + "<=" + two, one <= two ? 1 : 0);
                Calls.dueValue(one + ">" + two, one > two ? 1 : 0);
                Calls.dueValue(one + ">=" + two, one >= two ? 1 : 0);
            }
        }
    }

    /** Promise 3, terms: "! && || give 1 or 0". */
    private static void oneOrZero() {
        for (long one : SOME) {
            Calls.dueValue("!" + one, one == 0 ? 1 : 0);
            Calls.dueValue("!!" + one, one == 0 ? 0 : 1);
            for (long two : SOME) {
                Calls.dueValue(one + "&&" + two, one != 0 && two != 0 ? 1 : 0);
                Calls.dueValue(one + "||" + two, one != 0 || two != 0 ? 1 : 0);
            }
        }
    }
}
