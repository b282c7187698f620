/** Promise 3: value, but for what the terms say of texts, which the tests of other names with Value try. */
public final class ValueTest {
    /** One of each kind of error that the document lists; bad has the text x, and 64 names have one. */
    private static final String[] ERRORS = {"1+", "1 2", "(1", "$", "08", "1/0", "1%0", "n1/=0", "bad", "bad+=1", "x=1", "x+=1",
        "-".repeat(41) + "1", "(".repeat(41) + "1" + ")".repeat(41)};

    public static void main(String[] args) {
        nothingButBlanks();
        emptyThen();
        emptyAfterAnError();
        errors();
        textsThatAreNone();
        leavesTheRest();
        Calls.end();
    }

    /** Promise 3, terms: "text: nothing but blanks: 0". */
    private static void nothingButBlanks() {
        String[] texts = {"", " ", "\t", "\n", " \n\t ", " ".repeat(299), " ".repeat(300), "\n".repeat(300), "\t".repeat(300)};
        for (String text : texts) {
            ShellSum sum = new ShellSum();
            Calls.due("promise 3, value of blanks", Calls.answer(sum, text), 0L);
            Calls.due("promise 3, count(3) after it", sum.count(3), 1);
        }
        Calls.dueValue(" ".repeat(299) + "7", 7);
        Calls.dueValue("7" + "\n".repeat(299), 7);
        Calls.dueError(" ".repeat(299) + "$");
        Calls.dueError("()");
        Calls.dueError("( )");
    }

    /** Promise 3: "The text is reckoned, and is empty then." */
    private static void emptyThen() {
        ShellSum sum = new ShellSum();
        Calls.due("promise 3, value of 12", Calls.answer(sum, "12"), 12L);
        Calls.due("promise 3, length after it", sum.count(0), 0);
        Calls.due("promise 3, value() again", Calls.value(sum), 0L);
        Calls.due("promise 3, value of a shorter one", Calls.answer(sum, "3"), 3L);
        Calls.due("promise 3, value of 300 digits", Calls.answer(sum, "0".repeat(299) + "5"), 5L);
        Calls.due("promise 3, text behind it", sum.text('1', 1), 1);
        Calls.due("promise 3, value of it", Calls.value(sum), 1L);
    }

    /** Promise 3: "and is empty then": after an error, too. */
    private static void emptyAfterAnError() {
        for (String text : ERRORS) {
            ShellSum sum = full();
            Calls.due("promise 3, value of " + text, Calls.answer(sum, text), Calls.ERROR);
            Calls.due("promise 3, length after " + text, sum.count(0), 0);
            Calls.due("promise 3, value() after " + text, Calls.value(sum), 0L);
            Calls.due("promise 3, another text after " + text, Calls.answer(sum, "2*3"), 6L);
        }
    }

    /** Promise 3: "IllegalStateException for an error": that class itself, and no answer is counted as right. */
    private static void errors() {
        for (String text : ERRORS) {
            ShellSum sum = full();
            Calls.type(sum, text);
            Object thrown = "nothing";
            try {
                sum.value();
            } catch (RuntimeException e) {
                thrown = e.getClass();
            }
            Calls.due("promise 3, what " + text + " throws", thrown, IllegalStateException.class);
            Calls.due("promise 3, count(3) after " + text, sum.count(3), 0);
            Calls.due("promise 3, count(4) after " + text, sum.count(4), 1);
        }
    }

    /** Promise 3, terms: "ERRORS: a text that is none". */
    private static void textsThatAreNone() {
        String[] texts = {"+", "-", "!", "~", "1+", "1*", "*1", "/1", "1**2", "1//2", "1=1", "(1)=2", "(a)=2", "-a=2", "1+a=2", "a==1=2",
            "(", ")", "()", "(1", "1)", "((1)", "(1))", ")1(", "(1)(2)", "2(3)", "(2)3", "a(1)", "(a)b", "1 2", "a b", "1 a", "a 1",
            "$", "1$", "$1", "1,2", "1;", "a.b", "\"1\"", "'1'", "[1]", "{1}", "#1", "@", "\\", "`1`", "1 ? 2 ; 3", "a++", "a--",
            "1!", "1~", "1~2", "1!2", "a!", "=", "==", "=1", "a=", "a+=", "a=*1", "a==", "a<<", "a<<=", "a!=", "?", ":", "1?2", "1:2"};
        for (String text : texts) {
            Calls.dueError(text);
            Calls.dueError(text + " ");
            Calls.dueError(" " + text);
        }
        for (char c = 33; c < 127; c++) {
            if (!Calls.isOfName(c)) {
                Calls.dueError("" + c);
                Calls.dueError("1" + c);
            }
        }
    }

    /** Promise 3: a text that gives no name a text changes nothing but the text and the counts. */
    private static void leavesTheRest() {
        ShellSum sum = new ShellSum();
        Calls.put(sum, "c", "-5");
        Calls.put(sum, "b", "34");
        Calls.due("promise 3, value of c*b+d", Calls.answer(sum, "c*b+d"), -170L);
        Calls.answer(sum, "1?b:(");
        Calls.due("promise 3, names with a text", sum.count(1), 2);
        Calls.due("promise 3, the name at hand", sum.letter(0), (int) '3');
        Calls.dueText(sum, "b", "34");
        Calls.dueText(sum, "c", "-5");
    }

    private static ShellSum full() {
        ShellSum sum = new ShellSum();
        Calls.fill(sum, 63);
        Calls.put(sum, "bad", "x");
        return sum;
    }
}
