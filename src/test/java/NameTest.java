/** Promise 4: name. */
public final class NameTest {
    public static void main(String[] args) {
        lowestBytes();
        atHand();
        counts();
        firstCharacters();
        laterCharacters();
        othersAreOthers();
        Calls.end();
    }

    /** Promise 4: "The n lowest bytes of chars are the name at hand: true". */
    private static void lowestBytes() {
        for (int n = 1; n <= 8; n++) {
            ShellSum sum = new ShellSum();
            String name = "z_9AbcdE".substring(0, n);
            // The bytes above the n lowest are none of a name here, and must not be looked at.
            long above = n == 8 ? 0 : 0xFF2B7F80200B08FFL << 8 * n;
            Calls.due("promise 4, name of " + n, sum.name(Calls.pack(name) | above, n), true);
            sum.put('6', 1);
            Calls.due("promise 4, value of " + name, Calls.answer(sum, name), 6L);
            Calls.due("promise 4, names with a text", sum.count(1), 1);
        }
    }

    /** Promise 4: the name at hand is the one that put, drop, letter and count are about; none of its own gets a text by it. */
    private static void atHand() {
        ShellSum sum = new ShellSum();
        Calls.due("promise 4, name b", sum.name('b', 1), true);
        Calls.due("promise 4, names with a text", sum.count(1), 0);
        Calls.due("promise 4, the length of b's text", sum.count(2), ShellSum.NONE);
        sum.put('1', 1);
        Calls.due("promise 4, name b again", sum.name('b', 1), true);
        Calls.due("promise 4, a letter of b's text", sum.letter(0), (int) '1');
        Calls.due("promise 4, name a", sum.name('a', 1), true);
        Calls.due("promise 4, the length of a's text", sum.count(2), ShellSum.NONE);
        Calls.due("promise 4, drop of a", sum.drop(), false);
        Calls.dueText(sum, "b", "1");
        Calls.answer(sum, "c=3");
        Calls.due("promise 4, value() leaves the name at hand", sum.letter(0), (int) '1');
    }

    /** Promise 4: "false, changing nothing, when n is not 1 .. 8". */
    private static void counts() {
        int[] counts = {0, -1, -2, -8, -256, Integer.MIN_VALUE, 9, 10, 16, 64, 256, Integer.MAX_VALUE};
        for (int n : counts) {
            ShellSum sum = Calls.inUse();
            String call = "name(.., " + n + ")";
            Calls.due("promise 4, " + call, sum.name(Calls.pack("cccccccc"), n), false);
            Calls.dueInUse(call, sum);
        }
    }

    /** Promise 4: "false, changing nothing, when .. they are no name": a letter or _ is the first. */
    private static void firstCharacters() {
        for (int c = 0; c < 256; c++) {
            dueName(c, 1, Calls.startsName(c), "character " + c);
            dueName((long) c << 8 | 'x', 2, Calls.startsName(c), "character " + c + " and x");
            dueName(Calls.eightButOne('x', 0, c), 8, Calls.startsName(c), "character " + c + " and seven x");
        }
    }

    /** Promise 4: "false, changing nothing, when .. they are no name": letters, digits, _ come then. */
    private static void laterCharacters() {
        for (int c = 0; c < 256; c++) {
            dueName('x' << 8 | c, 2, Calls.isOfName(c), "x and character " + c);
            dueName('_' << 8 | c, 2, Calls.isOfName(c), "_ and character " + c);
        }
        int[] some = {0, 9, 10, 32, '/', '0', '9', ':', '@', 'A', 'Z', '[', '^', '_', '`', 'a', 'z', '{', 128, 255};
        for (int place = 1; place < 8; place++) {
            for (int c : some) {
                dueName(Calls.eightButOne('x', place, c), 8, Calls.isOfName(c), "eight x, but character " + c + " at " + place);
            }
        }
    }

    private static void dueName(long chars, int n, boolean want, String which) {
        ShellSum sum = Calls.inUse();
        Calls.due("promise 4, name of " + which, sum.name(chars, n), want);
        if (!want) {
            Calls.dueInUse("name of " + which, sum);
        }
    }

    /** Promise 4: names that only begin alike, or differ in small and large letters, are others. */
    private static void othersAreOthers() {
        ShellSum sum = new ShellSum();
        String[] names = {"ab", "a", "abc", "aB", "Ab", "ab_", "_ab", "abcdefgh", "abcdefg", "abcdefgi"};
        for (int i = 0; i < names.length; i++) {
            Calls.dueText(sum, names[i], null);
            Calls.put(sum, names[i], "" + i);
        }
        for (int i = 0; i < names.length; i++) {
            Calls.dueText(sum, names[i], "" + i);
            Calls.due("promise 4, value of " + names[i], Calls.answer(sum, names[i]), (long) i);
        }
    }
}
