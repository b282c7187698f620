/** Promise 4: name. */
public final class NameTest {
    public static void main(String[] args) {
        ShellSum sum = new ShellSum();
        String[] names = {"b", "_", "Z9", "a_b", "__0", "abcdefgh", "A", "z", "zzzzzzz0"};
        for (int i = 0; i < names.length; i++) {
            Calls.due("name " + names[i], Calls.name(sum, names[i]), true);
            Calls.due("its text", sum.count(2), ShellSum.NONE);
            sum.put(Calls.pack("" + i), 1);
        }
        for (int i = 0; i < names.length; i++) {
            Calls.dueText(sum, names[i], "" + i);
            Calls.due("value of " + names[i], Calls.answer(sum, names[i]), (long) i);
        }
        refused(sum);
        firstAndLaterCharacters();
        prefixesAreOthers();
        Calls.end();
    }

    private static void refused(ShellSum sum) {
        Calls.name(sum, "Z9");
        String[] wrong = {"", "1", "9a", "a b", "a-", " a", "a ", "+", "a.b", "a\n"};
        for (String name : wrong) {
            Calls.due("name " + name, Calls.name(sum, name), false);
            Calls.due("letter of the name at hand", sum.letter(0), (int) '2');
        }
        int[] counts = {-1, 0, 9, 17, Integer.MIN_VALUE, Integer.MAX_VALUE};
        for (int n : counts) {
            Calls.due("name(.., " + n + ")", sum.name(Calls.pack("bbbbbbbb"), n), false);
            Calls.due("letter of the name at hand", sum.letter(0), (int) '2');
        }
        Calls.due("higher bytes are none of it", sum.name(0xFF00000000000062L, 1), true);
        Calls.due("letter of b", sum.letter(0), (int) '0');
    }

    private static void firstAndLaterCharacters() {
        ShellSum sum = new ShellSum();
        for (int c = 0; c < 256; c++) {
            boolean first = c >= 'a' && c <= 'z' || c >= 'A' && c <= 'Z' || c == '_';
            boolean later = first || c >= '0' && c <= '9';
            Calls.due("name of character " + c, sum.name(c, 1), first);
            Calls.due("name of x and character " + c, sum.name('x' << 8 | c, 2), later);
            Calls.due("name of x, character " + c + ", y", sum.name('x' << 16 | c << 8 | 'y', 3), later);
        }
    }

    private static void prefixesAreOthers() {
        ShellSum sum = new ShellSum();
        Calls.put(sum, "ab", "1");
        Calls.dueText(sum, "a", null);
        Calls.dueText(sum, "abc", null);
        Calls.dueText(sum, "aB", null);
        Calls.dueText(sum, "ab", "1");
    }
}
