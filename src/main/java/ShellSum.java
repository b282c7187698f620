/**
 * Reckons texts of arithmetic as shells do: numbers of 64 bits, names that have texts, assignments.
 */
public final class ShellSum {
    public static final int NONE = -1;

    private static final int LONGEST_TEXT = 300;
    private static final int MOST_BYTES = 8;
    private static final int MOST_NAMES = 64;
    private static final int MOST_WITHIN = 40;
    // Long.MIN_VALUE has nineteen digits and a sign ahead of them.
    private static final int LONGEST_NAMED_TEXT = 20;
    // A sign that waits takes a character, and so does the value ahead of it.
    private static final int MOST_WAITING = LONGEST_TEXT / 2;

    // A sign is known by its characters: one as it is, two as a number of two bytes.
    private static final int NO_SIGN = 0;
    private static final int OR = '|' << 8 | '|';
    private static final int AND = '&' << 8 | '&';
    private static final int EQUAL = '=' << 8 | '=';
    private static final int UNEQUAL = '!' << 8 | '=';
    private static final int AT_MOST = '<' << 8 | '=';
    private static final int AT_LEAST = '>' << 8 | '=';
    private static final int SHIFT_LEFT = '<' << 8 | '<';
    private static final int SHIFT_RIGHT = '>' << 8 | '>';

    private final Reckoner reckoner = new Reckoner();
    private final char[] row = reckoner.row;
    private final Names names = reckoner.names;
    private int length = 0;
    private final char[] hand = new char[MOST_BYTES];
    private int handLength = 1;
    private int right = 0;
    private int wrong = 0;

    public ShellSum() {
        hand[0] = 'a';
    }

    public int text(long chars, int n) {
        if (!areOfText(chars, n) || length + n > LONGEST_TEXT) {
            return NONE;
        }
        unpack(chars, n, row, length);
        length += n;
        return length;
    }

    public long value() throws IllegalStateException {
        boolean fine = reckoner.manages(length);
        length = 0;
        if (!fine) {
            wrong++;
            throw new IllegalStateException("the text has an error");
        }
        right++;
        return reckoner.result;
    }

    public boolean name(long chars, int n) {
        if (!areName(chars, n)) {
            return false;
        }
        unpack(chars, n, hand, 0);
        handLength = n;
        return true;
    }

    public boolean put(long chars, int n) {
        if (!areOfText(chars, n)) {
            return false;
        }
        Named named = names.findOrAdd(hand, 0, handLength);
        if (named == null) {
            return false;
        }
        unpack(chars, n, named.row, 0);
        named.length = n;
        return true;
    }

    public boolean drop() {
        return names.remove(hand, 0, handLength);
    }

    public int letter(int i) {
        Named named = names.find(hand, 0, handLength);
        if (named == null || i < 0 || i >= named.length || i >= named.row.length) {
            return NONE;
        }
        return named.row[i];
    }

    public int count(int what) {
        switch (what) {
            case 0:
                return length;
            case 1:
                return names.size;
            case 2:
                Named named = names.find(hand, 0, handLength);
                return named == null ? NONE : named.length;
            case 3:
                return right;
            case 4:
                return wrong;
            default:
                return NONE;
        }
    }

    /** The byte that is i-th of the n lowest, the highest of them being the first. */
    private static char byteAt(long chars, int n, int i) {
        return (char) (chars >>> 8 * (n - 1 - i) & 255);
    }

    private static boolean areOfText(long chars, int n) {
        if (n < 0 || n > MOST_BYTES) {
            return false;
        }
        for (int i = 0; i < n; i++) {
            char c = byteAt(chars, n, i);
            if (!isBlank(c) && (c < 32 || c > 126)) {
                return false;
            }
        }
        return true;
    }

    private static boolean areName(long chars, int n) {
        if (n < 1 || n > MOST_BYTES || !startsName(byteAt(chars, n, 0))) {
            return false;
        }
        for (int i = 1; i < n; i++) {
            if (!isOfWord(byteAt(chars, n, i))) {
                return false;
            }
        }
        return true;
    }

    private static void unpack(long chars, int n, char[] to, int start) {
        for (int i = 0; i < n && start + i < to.length; i++) {
            to[start + i] = byteAt(chars, n, i);
        }
    }

    private static boolean isBlank(char c) {
        return c == 9 || c == 10 || c == 32;
    }

    private static boolean isDigit(char c) {
        return c >= '0' && c <= '9';
    }

    private static boolean startsName(char c) {
        return c >= 'a' && c <= 'z' || c >= 'A' && c <= 'Z' || c == '_';
    }

    private static boolean isOfWord(char c) {
        return startsName(c) || isDigit(c);
    }

    /** The number that a row is from start to end. */
    private static long numberIn(char[] from, int start, int end) {
        if (start < 0 || start >= end || end > from.length) {
            throw new IllegalStateException("a number has no digit");
        }
        int base = baseOf(from[start], start + 1 < end ? from[start + 1] : '0');
        int first = base == 16 ? start + 2 : start;
        if (first >= end) {
            throw new IllegalStateException("a number of sixteen has no digit");
        }
        long value = 0;
        for (int i = first; i < end; i++) {
            int digit = digitOf(from[i]);
            if (digit < 0 || digit >= base) {
                throw new IllegalStateException("a number has a wrong digit");
            }
            value = value * base + digit;
        }
        return value;
    }

    private static int baseOf(char first, char second) {
        if (first != '0') {
            return 10;
        }
        return second == 'x' || second == 'X' ? 16 : 8;
    }

    private static int digitOf(char c) {
        if (c >= '0' && c <= '9') {
            return c - '0';
        }
        if (c >= 'a' && c <= 'f') {
            return c - 'a' + 10;
        }
        return c >= 'A' && c <= 'F' ? c - 'A' + 10 : NONE;
    }

    /** A name that has a text. */
    private static final class Named {
        private final char[] letters;
        private final char[] row = new char[LONGEST_NAMED_TEXT];
        private int length = 0;

        /** The name is copied, for the row that it stands in is written anew. */
        private Named(char[] from, int start, int end) {
            letters = new char[Math.max(end - start, 0)];
            for (int i = 0; i < letters.length && start + i < from.length; i++) {
                letters[i] = from[start + i];
            }
        }

        private boolean isCalled(char[] other, int start, int end) {
            if (start < 0 || end > other.length || end - start != letters.length) {
                return false;
            }
            for (int i = 0; i < letters.length; i++) {
                if (letters[i] != other[start + i]) {
                    return false;
                }
            }
            return true;
        }

        private void writeDecimal(long value) {
            length = decimalLength(value);
            long rest = value;
            for (int i = length - 1; i >= 0 && i < row.length; i--) {
                // Digits are taken from the value as it is: the least one has no opposite.
                row[i] = (char) ('0' + Math.abs(rest % 10));
                rest /= 10;
            }
            if (value < 0) {
                row[0] = '-';
            }
        }

        private static int decimalLength(long value) {
            int digits = 1;
            for (long rest = value / 10; rest != 0 && digits < LONGEST_NAMED_TEXT; rest /= 10) {
                digits++;
            }
            return value < 0 ? digits + 1 : digits;
        }
    }

    /** The names that have texts; one without is not kept. */
    private static final class Names {
        private final Named[] kept = new Named[MOST_NAMES];
        private int size = 0;

        /** Null when the name has no text. */
        private Named find(char[] from, int start, int end) {
            for (int i = 0; i < size && i < kept.length; i++) {
                Named named = kept[i];
                if (named != null && named.isCalled(from, start, end)) {
                    return named;
                }
            }
            return null;
        }

        /** Null when the name has no text and may get none, as too many have. */
        private Named findOrAdd(char[] from, int start, int end) {
            Named known = find(from, start, end);
            if (known != null || size >= kept.length) {
                return known;
            }
            Named added = new Named(from, start, end);
            kept[size] = added;
            size++;
            return added;
        }

        private boolean remove(char[] from, int start, int end) {
            Named named = find(from, start, end);
            if (named == null) {
                return false;
            }
            // The last one fills the gap, for nothing asks in which order names are kept.
            size--;
            for (int i = 0; i < size && size < kept.length; i++) {
                if (kept[i] == named) {
                    kept[i] = kept[size];
                }
            }
            return true;
        }
    }

    /** How tightly the signs of two bind, and what they make of two values. */
    private static final class Signs {
        /** 0 for what is no sign of two, else the higher, the tighter. */
        private static int rankOf(int sign) {
            switch (sign) {
                case OR:
                    return 1;
                case AND:
                    return 2;
                case '|':
                    return 3;
                case '^':
                    return 4;
                case '&':
                    return 5;
                case EQUAL:
                case UNEQUAL:
                    return 6;
                case '<':
                case '>':
                case AT_MOST:
                case AT_LEAST:
                    return 7;
                case SHIFT_LEFT:
                case SHIFT_RIGHT:
                    return 8;
                case '+':
                case '-':
                    return 9;
                case '*':
                case '/':
                case '%':
                    return 10;
                default:
                    return 0;
            }
        }

        /** Whether the first value of two says it all, so that the second is not needed. */
        private static boolean isSettledBy(int sign, long first) {
            return sign == OR && first != 0 || sign == AND && first == 0;
        }

        private static long apply(int sign, long first, long second) {
            switch (sign) {
                case '|':
                    return first | second;
                case '^':
                    return first ^ second;
                case '&':
                    return first & second;
                case SHIFT_LEFT:
                    return first << (second & 63);
                case SHIFT_RIGHT:
                    return first >> (second & 63);
                case '+':
                    return first + second;
                case '-':
                    return first - second;
                case '*':
                    return first * second;
                case '/':
                case '%':
                    return divide(sign, first, second);
                default:
                    return holds(sign, first, second) ? 1 : 0;
            }
        }

        private static long divide(int sign, long first, long second) {
            if (second == 0) {
                throw new IllegalStateException("something divides by 0");
            }
            return sign == '/' ? first / second : first % second;
        }

        private static boolean holds(int sign, long first, long second) {
            switch (sign) {
                case OR:
                    return first != 0 || second != 0;
                case AND:
                    return first != 0 && second != 0;
                case EQUAL:
                    return first == second;
                case UNEQUAL:
                    return first != second;
                case '<':
                    return first < second;
                case '>':
                    return first > second;
                case AT_MOST:
                    return first <= second;
                case AT_LEAST:
                    return first >= second;
                default:
                    return false;
            }
        }
    }

    /**
     * Reckons the text while it reads it, from the left, so that what names got before an error stays.
     * A depth is how many brackets, choices, assignments and signs of one stand open round a place.
     */
    private static final class Reckoner {
        private final char[] row = new char[LONGEST_TEXT];
        private final Names names = new Names();
        // Signs of two wait here with their first value till the second is whole: were each rank
        // a call of its own, brackets within one another would need too many open calls.
        private final int[] waitingSigns = new int[MOST_WAITING];
        private final long[] waitingFirsts = new long[MOST_WAITING];
        private int waiting = 0;
        private int length = 0;
        private int place = 0;
        // How many signs round the place say that its value is not needed.
        private int unneeded = 0;
        private long result = 0;

        /** Whether the text was reckoned without an error; result is its value then. */
        private boolean manages(int textLength) {
            length = textLength;
            place = 0;
            waiting = 0;
            unneeded = 0;
            skipBlanks();
            if (place >= length) {
                result = 0;
                return true;
            }
            try {
                result = expression(0);
            } catch (IllegalStateException e) {
                return false;
            }
            skipBlanks();
            return place >= length;
        }

        /** E of the document. */
        private long expression(int depth) {
            skipBlanks();
            if (startsName(charAt(place))) {
                int start = place;
                int end = wordEnd();
                place = end;
                int sign = assignmentSign();
                if (sign != NO_SIGN) {
                    long value = expression(deeper(depth));
                    return unneeded > 0 ? 0 : assign(start, end, sign, value);
                }
                place = start;
            }
            return choice(depth);
        }

        /** C of the document. */
        private long choice(int depth) {
            long test = binary(depth);
            skipBlanks();
            if (charAt(place) != '?') {
                return test;
            }
            place++;
            int within = deeper(depth);
            int firstUnneeded = test == 0 ? 1 : 0;
            int secondUnneeded = 1 - firstUnneeded;
            unneeded += firstUnneeded;
            long first = expression(within);
            unneeded -= firstUnneeded;
            expect(':');
            unneeded += secondUnneeded;
            long second = choice(within);
            unneeded -= secondUnneeded;
            return test == 0 ? second : first;
        }

        /** B of the document. */
        private long binary(int depth) {
            int bottom = waiting;
            long value = unary(depth);
            int sign = signOfTwo();
            for (int i = 0; i < LONGEST_TEXT && sign != NO_SIGN; i++) {
                long first = settle(bottom, Signs.rankOf(sign), value);
                await(sign, first);
                value = unary(depth);
                sign = signOfTwo();
            }
            return settle(bottom, 0, value);
        }

        /** U and P of the document. */
        private long unary(int depth) {
            skipBlanks();
            char c = charAt(place);
            switch (c) {
                case '+':
                    place++;
                    return unary(deeper(depth));
                case '-':
                    place++;
                    return -unary(deeper(depth));
                case '!':
                    place++;
                    return unary(deeper(depth)) == 0 ? 1 : 0;
                case '~':
                    place++;
                    return ~unary(deeper(depth));
                case '(':
                    place++;
                    long value = expression(deeper(depth));
                    expect(')');
                    return value;
                default:
                    return word();
            }
        }

        private static int deeper(int depth) {
            if (depth >= MOST_WITHIN) {
                throw new IllegalStateException("too much stands within one another");
            }
            return depth + 1;
        }

        private long word() {
            int start = place;
            int end = wordEnd();
            place = end;
            if (isDigit(charAt(start))) {
                return numberIn(row, start, end);
            }
            if (!startsName(charAt(start))) {
                throw new IllegalStateException("a number, a name or a bracket is missing");
            }
            return unneeded > 0 ? 0 : nameValue(start, end);
        }

        private long nameValue(int start, int end) {
            Named named = names.find(row, start, end);
            if (named == null || named.length == 0) {
                return 0;
            }
            if (named.row[0] == '-') {
                return -numberIn(named.row, 1, named.length);
            }
            return numberIn(named.row, 0, named.length);
        }

        private long assign(int start, int end, int sign, long value) {
            long whole = sign == '=' ? value : Signs.apply(sign, nameValue(start, end), value);
            Named named = names.findOrAdd(row, start, end);
            if (named == null) {
                throw new IllegalStateException("too many names would have a text");
            }
            named.writeDecimal(whole);
            return whole;
        }

        private void await(int sign, long first) {
            if (waiting < 0 || waiting >= MOST_WAITING) {
                throw new IllegalStateException("too many signs wait");
            }
            waitingSigns[waiting] = sign;
            waitingFirsts[waiting] = first;
            waiting++;
            if (Signs.isSettledBy(sign, first)) {
                unneeded++;
            }
        }

        /** Applies the signs that wait above the bottom and bind at least as tightly as the rank. */
        private long settle(int bottom, int rank, long last) {
            long value = last;
            for (int i = waiting - 1; i >= bottom && i >= 0 && i < MOST_WAITING; i--) {
                int sign = waitingSigns[i];
                if (Signs.rankOf(sign) < rank) {
                    break;
                }
                waiting = i;
                value = join(sign, waitingFirsts[i], value);
            }
            return value;
        }

        private long join(int sign, long first, long second) {
            if (Signs.isSettledBy(sign, first)) {
                unneeded--;
                return sign == OR ? 1 : 0;
            }
            return unneeded > 0 ? 0 : Signs.apply(sign, first, second);
        }

        /** Reads the sign of two at the place; NO_SIGN, reading none, where none stands. */
        private int signOfTwo() {
            skipBlanks();
            int one = charAt(place);
            int two = one << 8 | charAt(place + 1);
            if (Signs.rankOf(two) > 0) {
                if (isShift(two) && charAt(place + 2) == '=') {
                    return NO_SIGN;
                }
                place += 2;
                return two;
            }
            if (Signs.rankOf(one) == 0 || charAt(place + 1) == '=') {
                return NO_SIGN;
            }
            place++;
            return one;
        }

        /**
         * Reads the S of the document at the place: the sign that stands ahead of its =, or = where
         * none does; NO_SIGN, reading none, where no S stands.
         */
        private int assignmentSign() {
            skipBlanks();
            int one = charAt(place);
            char next = charAt(place + 1);
            int two = one << 8 | next;
            if (one == '=' && next != '=') {
                place++;
                return one;
            }
            if (isShift(two) && charAt(place + 2) == '=') {
                place += 3;
                return two;
            }
            // With = behind, < and > compare.
            if (next == '=' && one != '<' && one != '>' && Signs.rankOf(one) > 0) {
                place += 2;
                return one;
            }
            return NO_SIGN;
        }

        private static boolean isShift(int sign) {
            return sign == SHIFT_LEFT || sign == SHIFT_RIGHT;
        }

        private void expect(char c) {
            skipBlanks();
            if (charAt(place) != c) {
                throw new IllegalStateException("a bracket or a choice has no end");
            }
            place++;
        }

        private void skipBlanks() {
            for (int i = place; i < length && isBlank(charAt(i)); i++) {
                place = i + 1;
            }
        }

        /** Where the letters, digits and _ end that stand from the place on. */
        private int wordEnd() {
            int end = place;
            for (int i = place; i < length && isOfWord(charAt(i)); i++) {
                end = i + 1;
            }
            return end;
        }

        /** 0, which is in no text, where the text has no character. */
        private char charAt(int i) {
            return i < 0 || i >= length || i >= row.length ? 0 : row[i];
        }
    }
}
