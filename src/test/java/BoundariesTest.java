import java.util.ArrayList;
import java.util.List;
import java.util.function.IntUnaryOperator;
import java.util.function.Supplier;
import java.util.function.ToIntFunction;

/**
 * Each sentence of the document that names a boundary case, under the number of its promise: the last value that is
 * taken and the first that is refused on either side, the empty and the full case, the order of two refusals, and
 * that what is refused changes nothing.
 */
public final class BoundariesTest {
    private static final int BAD = WordLaws.BAD;
    private static final int NOT = WordLaws.NOT;
    private static final int FULL = WordLaws.FULL;
    private static final int NONE = WordLaws.NONE;
    private static final int NULL = WordLaws.NULL;
    private static final int CAST = WordLaws.CAST;
    private static final int INDEX = WordLaws.INDEX;
    private static final int SIZE = WordLaws.SIZE;
    private static final int LOW = Integer.MIN_VALUE;
    private static final int HIGH = Integer.MAX_VALUE;
    private static final int[] LONGEST = {0, 8, 7, 5};
    /** By letters: laws that leave no more normal words than eight laws of length 2 can. */
    private static final String[][] FEWEST_WORDS = {
        {}, {"aa"}, {"aa", "ab", "ba", "bb"}, {"ab", "ac", "ba", "bc", "ca", "cb", "cc", "aa-bb"}};
    private static final int VIEWS = 4;
    private static final String EIGHTY_BYTES = "2a" + "+a".repeat(39);
    private static int wrong = 0;
    private static int asked = 0;

    public static void main(String[] args) {
        promise1NewObject();
        promise2Begin();
        promise3Type();
        promise4Law();
        promises4And17Faults();
        promise5Unlaw();
        promise6Told();
        promise7Count();
        promise8Normal();
        promise9Leads();
        promise10Word();
        promise11Plain();
        promise12Least();
        promise13Product();
        promise14Middle();
        promise15Other();
        promise16Fit();
        promise17Sum();
        promise18Part();
        promise19Reduce();
        promise20Put();
        promise21Times();
        promise22Sheet();
        promise23Drop();
        promise24Item();
        promise25Laws();
        promises1To25For512Calls();
        System.out.println(wrong == 0 ? "all " + asked + " boundary answers are as due" : wrong + " of " + asked + " are not as due");
        if (wrong != 0) {
            System.exit(1);
        }
    }

    // ---- how answers are compared

    private static void due(int promise, String what, int got, int want) {
        asked++;
        if (got != want) {
            wrong++;
            System.out.println("promise " + promise + ": " + what + " answered " + got + ", due is " + want);
        }
    }

    /** low .. high are taken, all else is refused; what is taken answers as told elsewhere, only not with a refusal. */
    private static void range(int promise, String what, int low, int high, IntUnaryOperator call) {
        range(promise, what, low, high, BAD, BAD, call);
    }

    private static void range(int promise, String what, int low, int high, int below, int above, IntUnaryOperator call) {
        for (int v : new int[] {LOW, LOW + 1, -100, low - 2, low - 1}) {
            if (v < low) {
                due(promise, what + " with " + v, call.applyAsInt(v), below);
            }
        }
        for (int v : new int[] {low, high}) {
            int got = call.applyAsInt(v);
            due(promise, what + " with " + v + " is taken, it", Math.min(got, 0), 0);
        }
        for (int v : new int[] {high + 1, high + 2, 1000, HIGH - 1, HIGH}) {
            if (v > high) {
                due(promise, what + " with " + v, call.applyAsInt(v), above);
            }
        }
    }

    /** Both makers' objects answer alike, whatever is asked of them. */
    private static void alike(int promise, String what, Supplier<WordLaws> one, Supplier<WordLaws> two) {
        asked++;
        for (int view = 0; view < VIEWS; view++) {
            List<Integer> first = show(view, one.get());
            List<Integer> second = show(view, two.get());
            if (!first.equals(second)) {
                wrong++;
                System.out.println("promise " + promise + ": " + what + ", view " + view + " shows " + first + ", due is " + second);
            }
        }
    }

    private static void refused(int promise, String what, Supplier<WordLaws> make, ToIntFunction<WordLaws> call, int want) {
        due(promise, what, call.applyAsInt(make.get()), want);
        alike(promise, "what is refused changes nothing, " + what, () -> after(make, call), make);
    }

    private static WordLaws after(Supplier<WordLaws> make, ToIntFunction<WordLaws> call) {
        WordLaws x = make.get();
        call.applyAsInt(x);
        return x;
    }

    /** What later calls show, in parts, for an object is good for 512 calls. */
    private static List<Integer> show(int view, WordLaws x) {
        List<Integer> all = new ArrayList<>();
        if (view == 0) {
            showLaws(x, all);
        } else if (view == 1) {
            showSum(x, all);
        } else if (view == 2) {
            all.add(x.type(' ', 1));
            all.add(x.sum());
            showSum(x, all);
        } else {
            showSheets(x, all);
        }
        return all;
    }

    private static void showLaws(WordLaws x, List<Integer> all) {
        for (int what = 0; what <= 5; what++) {
            all.add(x.count(what));
        }
        for (int law = 0; law < x.count(3); law++) {
            for (int word = -1; word < power(x.count(0), x.told(law, -1)); word++) {
                all.add(x.told(law, word));
            }
        }
        for (int d = 0; d <= x.count(2); d++) {
            all.add(x.normal(d));
            all.add(x.other(d));
            all.add(x.middle(d));
        }
        all.add(x.fit());
    }

    private static void showSum(WordLaws x, List<Integer> all) {
        int n = x.count(0);
        int longest = x.count(2);
        all.add(x.count(5));
        for (int d = 0; d <= longest; d++) {
            for (int word = 0; word < power(n, d); word++) {
                all.add(x.part(d, word));
            }
        }
    }

    /** Items are seen through laws of length 2; all laws go first, to make room for them. */
    private static void showSheets(WordLaws x, List<Integer> all) {
        int words = power(x.count(0), 2);
        for (int i = 0; i < 8; i++) {
            x.unlaw();
        }
        for (int sheet = 0; sheet < 4; sheet++) {
            for (int lane = 0; lane < 3; lane++) {
                int answer = 0;
                for (int from = 0; from < 100 && (answer >= 0 || answer == NOT); from++) {
                    answer = x.laws(sheet, lane, from, 2);
                    all.add(answer);
                    for (int word = 0; answer >= 0 && word < words; word++) {
                        all.add(x.told(answer, word));
                    }
                    x.unlaw();
                }
            }
            all.add(x.drop(sheet));
        }
    }

    // ---- how objects are made

    private static int power(int n, int d) {
        int many = 1;
        for (int i = 0; i < d; i++) {
            many *= n;
        }
        return many;
    }

    private static long bytes(String text) {
        long w = 0;
        for (char c : text.toCharArray()) {
            w = w << 8 | c;
        }
        return w;
    }

    private static WordLaws write(WordLaws x, String text) {
        for (int i = 0; i < text.length(); i += 8) {
            String piece = text.substring(i, Math.min(text.length(), i + 8));
            if (x.type(bytes(piece), piece.length()) < 1) {
                due(3, "type of '" + piece + "' is taken, it", 0, 1);
            }
        }
        return x;
    }

    private static int lawOf(WordLaws x, String text) {
        return write(x, text).law();
    }

    private static int sumOf(WordLaws x, String text) {
        return write(x, text).sum();
    }

    private static WordLaws begun(int n, int p, String... laws) {
        WordLaws x = new WordLaws();
        due(2, "begin(" + n + ", " + p + ")", x.begin(n, p), LONGEST[n]);
        for (int i = 0; i < laws.length; i++) {
            due(4, "law '" + laws[i] + "'", lawOf(x, laws[i]), i);
        }
        return x;
    }

    private static void fillSheets(WordLaws x) {
        x.sheet(0, 0, 4);
        x.item(0, 0, 3, -2);
        x.sheet(1, 1, 9);
        x.item(1, 1, 0, 3);
        x.item(1, 1, 8, 1);
        x.sheet(2, 2, 90);
        x.item(2, 2, 0, 1);
        x.item(2, 2, 89, 4);
    }

    /** Two laws, a sum, three sheets, and a text on the tape. */
    private static WordLaws busy(String tape) {
        WordLaws x = begun(2, 7, "ab-3ba", "bb+2aa");
        sumOf(x, "3+2a+ba+4bab");
        fillSheets(x);
        return write(x, tape);
    }

    /** Eight laws, a sum with a word of the longest, three sheets. */
    private static WordLaws full(String tape) {
        WordLaws x = begun(3, 5, "aa", "ab-ba", "cc", "cb+2bc", "bb-aa", "ca", "ac", "aa+cc");
        sumOf(x, "2abcab+b-1");
        fillSheets(x);
        return write(x, tape);
    }

    /** The same object, asked for all that follows from its laws. */
    private static WordLaws workedOut(WordLaws x) {
        x.count(4);
        x.fit();
        for (int d = 0; d < x.count(2); d++) {
            x.middle(d);
        }
        return x;
    }

    // ---- 1 laws

    private static void promise1NewObject() {
        WordLaws x = new WordLaws();
        int[] counts = {2, 7, 7, 0, 0, 0};
        for (int what = 0; what <= 5; what++) {
            due(1, "count(" + what + ") of a new object", x.count(what), counts[what]);
        }
        for (int d = 0; d <= 7; d++) {
            due(1, "without laws normal(" + d + ")", x.normal(d), power(2, d));
            for (int word = 0; word < power(2, d); word++) {
                due(1, "the sum is 0, part(" + d + ", " + word + ")", x.part(d, word), 0);
            }
        }
        due(1, "no laws, told(0, -1)", x.told(0, -1), BAD);
        due(1, "no laws, unlaw()", x.unlaw(), NOT);
        due(1, "the tape is empty, law()", x.law(), -20);
        due(1, "the tape is empty, sum()", x.sum(), -20);
        due(1, "the tape is empty, type", x.type('a', 1), 1);
        for (int sheet = 0; sheet < 4; sheet++) {
            due(1, "sheets hold nothing, drop(" + sheet + ")", x.drop(sheet), NULL);
        }
        full("ab").begin(1, 2);
        alike(1, "a new object is as begin(2, 7) makes it", WordLaws::new, () -> begun(2, 7));
        due(1, "objects do not share what they hold, count(3)", new WordLaws().count(3), 0);
    }

    private static void promise2Begin() {
        String primes = " 2 3 5 7 11 13 17 19 23 29 31 37 41 43 47 53 59 61 67 71 73 79 83 89 97 ";
        for (int n = 1; n <= 3; n++) {
            for (int p = -9; p <= 130; p++) {
                int want = primes.contains(" " + p + " ") ? LONGEST[n] : BAD;
                due(2, "begin(" + n + ", " + p + ")", new WordLaws().begin(n, p), want);
            }
            for (int p : new int[] {LOW, LOW + 7, -97, 65537, 9409, HIGH}) {
                due(2, "begin(" + n + ", " + p + ")", new WordLaws().begin(n, p), BAD);
            }
            WordLaws x = begun(n, 97);
            due(2, "letters", x.count(0), n);
            due(2, "the prime", x.count(1), 97);
            due(2, "the longest", x.count(2), LONGEST[n]);
        }
        range(2, "begin(n, 7)", 1, 3, n -> new WordLaws().begin(n, 7));
        range(2, "begin(n, 97)", 1, 3, n -> new WordLaws().begin(n, 97));
        refused(2, "begin(0, 7)", () -> busy("ab"), x -> x.begin(0, 7), BAD);
        refused(2, "begin(4, 7)", () -> busy("ab"), x -> x.begin(4, 7), BAD);
        refused(2, "begin(3, 1)", () -> busy("ab"), x -> x.begin(3, 1), BAD);
        refused(2, "begin(3, 9)", () -> busy("ab"), x -> x.begin(3, 9), BAD);
        refused(2, "begin(1, 98)", () -> full("ab"), x -> x.begin(1, 98), BAD);
        refused(2, "begin(3, 101)", () -> full("ab"), x -> x.begin(3, 101), BAD);
        beginAnew();
    }

    /** Of the tape and the sheets begin says nothing, so both stay. */
    private static void beginAnew() {
        for (int n = 1; n <= 3; n++) {
            int letters = n;
            alike(2, "no laws, the sum is 0, begin(" + n + ", 5)", () -> after(() -> full("a-2"), x -> x.begin(letters, 5)), () -> {
                WordLaws x = begun(letters, 5);
                fillSheets(x);
                return write(x, "a-2");
            });
        }
        alike(2, "what was worked out by the laws went with them", () -> after(() -> workedOut(full("")), x -> x.begin(3, 7)), () -> {
            WordLaws x = begun(3, 7);
            fillSheets(x);
            return x;
        });
        WordLaws x = full("");
        due(2, "begin with the same letters and prime", x.begin(3, 5), 5);
        due(2, "no laws", x.count(3), 0);
        due(2, "no terms", x.count(5), 0);
        due(2, "the first law behind begin", lawOf(x, "aa"), 0);
        WordLaws y = begun(2, 97, "ab-ba");
        due(2, "begin(2, 2)", y.begin(2, 2), 7);
        due(2, "numbers are rests of the new prime", lawOf(y, "3ab-ba"), 0);
        due(2, "3 by rests of 2", y.told(0, 1), 1);
        due(2, "-1 by rests of 2", y.told(0, 2), 1);
    }

    private static void promise3Type() {
        long letters = bytes("abababab");
        range(3, "type(w, n)", 1, 8, n -> new WordLaws().type(letters, n));
        for (int place = 0; place < 8; place++) {
            for (int b : new int[] {0, 1, 31, 32, 126, 127, 128, 160, 255}) {
                long w = letters & ~(255L << 8 * place) | (long) b << 8 * place;
                boolean fine = b >= 32 && b <= 126;
                due(3, "byte " + b + " at " + place + " of 8", new WordLaws().type(w, 8), fine ? 8 : BAD);
                due(3, "byte " + b + " as the highest of " + (place + 1), new WordLaws().type(w, place + 1), fine ? place + 1 : BAD);
                due(3, "byte " + b + " above the lowest " + place, new WordLaws().type(w, Math.max(1, place)), place > 0 ? place : fine ? 1 : BAD);
            }
        }
        WordLaws x = new WordLaws();
        due(3, "the lowest three of eight", x.type(bytes("?????abb"), 3), 3);
        due(3, "bytes come behind", x.type(bytes("a"), 1), 4);
        due(3, "one term", x.sum(), 1);
        due(3, "the highest first: abba", x.part(4, 6), 1);
        fullTape();
    }

    private static void fullTape() {
        WordLaws x = begun(2, 97);
        for (int i = 1; i <= 9; i++) {
            due(3, "eight bytes more", x.type(bytes("+a+a+a+a"), 8), 8 * i);
        }
        due(3, "72 and 8 are 80", x.type(bytes("+a+a+a+a"), 8), 80);
        for (int n = 1; n <= 8; n++) {
            due(3, "80 and " + n, x.type(bytes("aaaaaaaa"), n), FULL);
        }
        for (int size = 73; size <= 79; size++) {
            WordLaws y = write(new WordLaws(), "a".repeat(size));
            due(3, size + " and one too many", y.type(bytes("aaaaaaaa"), 81 - size), FULL);
            due(3, size + " and just enough", y.type(bytes("aaaaaaaa"), 80 - size), 80);
        }
        WordLaws z = write(begun(2, 97), EIGHTY_BYTES);
        due(3, "80 bytes are read", z.sum(), 1);
        due(3, "2 and 39 times a", z.part(1, 0), 41);
        due(3, "the tape is empty again", z.type(' ', 1), 1);
        refused(3, "n 0", () -> busy("ab"), y -> y.type(' ', 0), BAD);
        refused(3, "n 9", () -> busy("ab"), y -> y.type(bytes("aaaaaaaa"), 9), BAD);
        refused(3, "a byte 31 behind good ones", () -> busy("ab"), y -> y.type(bytes("aaa\u001f"), 4), BAD);
        refused(3, "a byte 127 ahead of good ones", () -> busy("ab"), y -> y.type(bytes("\u007faaa"), 4), BAD);
        refused(3, "FULL", () -> full(EIGHTY_BYTES), y -> y.type('b', 1), FULL);
        refused(3, "FULL, though some bytes have room", () -> busy("ab-2".repeat(18) + "+a+b+a"), y -> y.type(bytes("+a+a"), 4), FULL);
        refused(3, "BAD of n ahead of FULL", () -> full(EIGHTY_BYTES), y -> y.type(bytes("aaaaaaaa"), 9), BAD);
        refused(3, "BAD of a byte ahead of FULL", () -> full(EIGHTY_BYTES), y -> y.type(31, 1), BAD);
    }

    private static void promise4Law() {
        for (int n = 1; n <= 3; n++) {
            for (int d = 0; d <= LONGEST[n]; d++) {
                boolean fine = d >= 2 && d <= 4;
                due(4, "a law of length " + d, lawOf(begun(n, 7), "3" + "a".repeat(d)), fine ? 0 : NOT);
                for (int e = 0; e < d; e++) {
                    due(4, "a law of lengths " + d + " and " + e, lawOf(begun(n, 7), "3" + "a".repeat(d) + "+2" + "a".repeat(e)), NOT);
                    due(4, "a law of lengths " + e + " and " + d, lawOf(begun(n, 7), "3" + "a".repeat(e) + "+2" + "a".repeat(d)), NOT);
                }
            }
        }
        for (String nought : new String[] {"0", "0ab", "7ab", "994ab", "ab-ab", "ab+6ab", "3ab-3ab+0ba", "14", "0ab-0bab", "a-a"}) {
            due(4, "a law that is 0: " + nought, lawOf(new WordLaws(), nought), NOT);
        }
        for (String fine : new String[] {"ab+0a", "ab+7bbb", "ab+a-a", "0+ab", "ab-14bbbbb"}) {
            WordLaws x = new WordLaws();
            due(4, "words with the number 0 are no words of a sum: " + fine, lawOf(x, fine), 0);
            due(4, "its length", x.told(0, -1), 2);
        }
        lawNumbers();
        lawsFull();
        lawOrder();
        lawTape();
    }

    private static void lawNumbers() {
        for (int p : new int[] {2, 3, 7, 97}) {
            WordLaws x = begun(2, p);
            due(4, "a law by rests", lawOf(x, "-aa+999ab-999ba+" + (p + 1) + "bb"), 0);
            due(4, "-1 by rests of " + p, x.told(0, 0), p - 1);
            due(4, "999 by rests of " + p, x.told(0, 1), 999 % p);
            due(4, "-999 by rests of " + p, x.told(0, 2), Math.floorMod(-999, p));
            due(4, "p + 1 by rests of " + p, x.told(0, 3), 1);
        }
    }

    private static void lawsFull() {
        for (int n = 1; n <= 3; n++) {
            WordLaws x = begun(n, 7);
            for (int i = 0; i < 8; i++) {
                due(4, "law " + i, lawOf(x, "a".repeat(2 + i % 3)), i);
            }
            due(4, "a ninth law", lawOf(x, "aa"), FULL);
            due(4, "the laws are eight", x.count(3), 8);
            due(4, "unlaw", x.unlaw(), 7);
            due(4, "room again", lawOf(x, "3aaa"), 7);
            due(4, "the eighth law's length", x.told(7, -1), 3);
            due(4, "the eighth law's number", x.told(7, 0), 3);
            due(4, "full again", lawOf(x, "aa"), FULL);
        }
    }

    private static void lawOrder() {
        due(4, "a fault ahead of NOT: too short", lawOf(new WordLaws(), "a?"), -21);
        due(4, "a fault ahead of NOT: 0", lawOf(new WordLaws(), "0ab+"), -24);
        due(4, "a fault ahead of FULL", lawOf(full(""), "ab+"), -23);
        due(4, "a fault of no bytes ahead of FULL", full("").law(), -20);
        due(4, "NOT ahead of FULL: too short", lawOf(full(""), "a"), NOT);
        due(4, "NOT ahead of FULL: too long", lawOf(full(""), "abcab"), NOT);
        due(4, "NOT ahead of FULL: two lengths", lawOf(full(""), "ab+abc"), NOT);
        due(4, "NOT ahead of FULL: 0", lawOf(full(""), "5ab"), NOT);
        due(4, "FULL", lawOf(full(""), "ab"), FULL);
    }

    /** "THE TAPE, which is empty then" names no answer at which it is not; all else stays if a law is refused. */
    private static void lawTape() {
        for (String text : new String[] {"+", "ab+", "abc", "a", "3", "ab+bbb", "ab-ab", "aabab"}) {
            alike(4, "refused but for the tape, law '" + text + "'", () -> after(() -> busy(text), WordLaws::law), () -> busy(""));
        }
        for (String text : new String[] {"ab", "a", "ab-", "5ab"}) {
            alike(4, "refused but for the tape, ninth law '" + text + "'", () -> after(() -> full(text), WordLaws::law), () -> full(""));
        }
        WordLaws x = workedOut(busy("ab"));
        due(4, "a third law", x.law(), 2);
        due(4, "what was worked out is worked out anew", x.normal(2), 1);
        due(4, "the middle too, as ab and ba are 0", x.middle(1), 2);
        due(4, "the other algebra too", x.other(2), 3);
        due(4, "the tape is empty behind it", x.type('a', 1), 1);
        due(4, "the sum stays", x.count(5), 4);
        due(4, "the sum stays as it is, though it is not plain", x.part(2, 2), 1);
    }

    private static void promises4And17Faults() {
        fault(2, 0, "", "+a", "+", "c", "d", "A", "`", "{", "~", "/", ":", "*", ",", ".", "=", "1000", "01000", "1000c", "c1000", "1000 ", "1001ab");
        fault(2, 0, "9999999999", "4294967297", "18446744073709551617", "9".repeat(80), "0".repeat(76) + "1000", "99999?");
        fault(2, 1, " ", "-", " +a", "--a", "-+a", "a1", "a*b", "a,", "a/", "a:", "1:", "1c", " 1000", "-1000", "aC", "ac", "-c", "a?+?");
        fault(2, 2, "- ", "  ", "- -a", "a+", "a-", "a++a", "a+-a", "a-+a", "a--a", "1 2", "a 1", "1a1", "abc", "a-1000", "a+c", "5-", "1 2a");
        fault(2, 3, "   ", "a+ ", "1  2", "ab 2", "a +", "a+ +a", "12 345", "ab+", "a  c", "  -");
        fault(2, 4, "a + - a", "a-  1000b", "100 0", "999 9", "a + 1000");
        fault(2, 5, "12-3+1000", "1 a +", "ab-b+");
        fault(2, 7, "aaaaaaaa", "bbbbbbbb", "aaaaaaaa1000", "aaaaaaa?", "aaaaaaa1");
        fault(2, 8, "aaaaaaa a", "3aaaaaaab", "-aaaaaaab", "a aaaaaaa", "aaaaaaa++");
        fault(2, 9, "a+aaaaaaaa");
        fault(2, 14, "a a a a a a a a");
        fault(2, 79, "a".repeat(7) + " ".repeat(72) + "a", "a+".repeat(39) + "a?", " ".repeat(79) + "+");
        fault(2, 80, " ".repeat(80), "a+".repeat(40), "1" + "-1".repeat(39) + "-");
        fault(1, 0, "b", "c");
        fault(1, 1, "ab", "3b");
        fault(1, 8, "a".repeat(9), "a".repeat(8) + "b");
        fault(3, 0, "d", "dab");
        fault(3, 3, "abcd");
        fault(3, 5, "abcabc", "ccccca");
        fault(3, 6, "2abcabc", "abcab c");
        noFaults();
    }

    private static void fault(int n, int place, String... texts) {
        for (String text : texts) {
            due(4, "law of '" + text + "'", lawOf(begun(n, 7), text), -20 - place);
            due(17, "sum of '" + text + "'", sumOf(begun(n, 7), text), -20 - place);
        }
    }

    private static void noFaults() {
        String[] one = {"a", "-a", " - a", "a ", "999", "-999", "000999a", "0".repeat(79) + "1", "1", "1a", "1 a", " 1  a  b ", "a b", "  aaaaaaa",
            "aaaaaaa-2aaaaaaa", "3-4", "999+999", "8a", "a" + " ".repeat(79), " ".repeat(79) + "a", "a a a a a a a"};
        for (String text : one) {
            due(17, "one term, sum of '" + text + "'", sumOf(new WordLaws(), text), 1);
        }
        due(17, "number 0 alone", sumOf(new WordLaws(), "0"), 0);
        due(17, "number 0 with letters", sumOf(new WordLaws(), "0ab"), 0);
        due(17, "80 digits 0", sumOf(new WordLaws(), "0".repeat(80)), 0);
        due(17, "8 letters of one", sumOf(begun(1, 7), "aaaaaaaa"), 1);
        due(17, "5 letters of three", sumOf(begun(3, 7), "ccccc"), 1);
        due(17, "letters start anew in each term", sumOf(begun(3, 7), "ccccc-abcab+bbbbb"), 3);
    }

    private static void promise5Unlaw() {
        WordLaws x = begun(2, 7);
        due(5, "unlaw of none", x.unlaw(), NOT);
        for (int i = 0; i < 8; i++) {
            due(5, "law " + i, lawOf(x, (i % 6 + 1) + "ab"), i);
        }
        for (int left = 7; left >= 0; left--) {
            due(5, "unlaw", x.unlaw(), left);
            due(5, "laws left", x.count(3), left);
            due(5, "the latest went", x.told(left, -1), BAD);
            due(5, "the one ahead of it is left", x.told(left - 1, 1), left > 0 ? (left - 1) % 6 + 1 : BAD);
        }
        due(5, "unlaw of none again", x.unlaw(), NOT);
        refused(5, "unlaw", () -> write(new WordLaws(), "ab"), WordLaws::unlaw, NOT);
        for (String law : new String[] {"aa", "ba-2ab", "bab", "abab-bbbb"}) {
            alike(5, "all is as ahead of law '" + law + "'", () -> {
                WordLaws y = busy("");
                due(5, "law", lawOf(y, law), 2);
                due(5, "unlaw", workedOut(y).unlaw(), 2);
                return y;
            }, () -> busy(""));
        }
    }

    private static void promise6Told() {
        for (int n = 1; n <= 3; n++) {
            WordLaws x = begun(n, 7, "2aa", "3aaa", "4aaaa");
            range(6, "told(law, 0)", 0, 2, law -> x.told(law, 0));
            range(6, "told(law, -1)", 0, 2, law -> x.told(law, -1));
            for (int law = 0; law < 3; law++) {
                int i = law;
                range(6, "told(" + law + ", word)", -1, power(n, law + 2) - 1, word -> x.told(i, word));
                due(6, "its length", x.told(law, -1), law + 2);
                due(6, "its first word", x.told(law, 0), law + 2);
            }
        }
        WordLaws last = begun(3, 97, "96cc", "95ccc", "94cccc");
        due(6, "the last word of length 2", last.told(0, 8), 96);
        due(6, "the last word of length 3", last.told(1, 26), 95);
        due(6, "the last word of length 4", last.told(2, 80), 94);
        due(6, "the last but one", last.told(2, 79), 0);
        due(6, "of no laws", new WordLaws().told(0, 0), BAD);
        WordLaws eight = full("");
        due(6, "the eighth law", eight.told(7, 8), 1);
        due(6, "a ninth law", eight.told(8, 0), BAD);
        due(6, "of a ninth law its length", eight.told(8, -1), BAD);
        refused(6, "told(-1, 0)", () -> busy("ab"), x -> x.told(-1, 0), BAD);
        refused(6, "told(0, -2)", () -> busy("ab"), x -> x.told(0, -2), BAD);
    }

    private static void promise7Count() {
        range(7, "count(what)", 0, 5, what -> full("").count(what));
        range(7, "count(what) of a new object", 0, 5, what -> new WordLaws().count(what));
        WordLaws x = full("");
        due(7, "letters", x.count(0), 3);
        due(7, "p", x.count(1), 5);
        due(7, "the longest", x.count(2), 5);
        due(7, "laws", x.count(3), 8);
        due(7, "terms", x.count(5), 3);
        due(7, "least laws without laws", new WordLaws().count(4), 0);
        due(7, "least laws where every word of length 2 leads", begun(2, 2, "aa", "ab", "ba", "bb").count(4), 4);
        due(7, "a law twice is one least law", begun(2, 7, "ab-ba", "3ab-3ba").count(4), 1);
        due(7, "a least law of the longest counts", begun(2, 7, "aba-bab").count(4), 4);
        WordLaws terms = new WordLaws();
        due(7, "words with a number 0 are no terms", sumOf(terms, "7a+b+0+ab-ab"), 1);
        due(7, "terms of it", terms.count(5), 1);
        refused(7, "count(6)", () -> busy("ab"), y -> y.count(6), BAD);
    }

    // ---- 2 lengths

    private static void promise8Normal() {
        for (int n = 1; n <= 3; n++) {
            WordLaws free = begun(n, 7);
            range(8, "normal(d)", 0, LONGEST[n], free::normal);
            WordLaws least = begun(n, 7, FEWEST_WORDS[n]);
            for (int d = 0; d <= LONGEST[n]; d++) {
                due(8, "without laws all words are normal, of length " + d, free.normal(d), power(n, d));
                due(8, "hardly a word is normal, of length " + d, least.normal(d), d == 0 ? 1 : d == 1 ? n : d == 2 && n == 3 ? 1 : 0);
            }
            for (int length = 2; length <= 4; length++) {
                WordLaws x = begun(n, 7, "a".repeat(length));
                due(8, "a law says nothing of shorter words", x.normal(length - 1), power(n, length - 1));
                due(8, "a law takes one word of its length", x.normal(length), power(n, length) - 1);
            }
        }
        due(8, "a law of length 2 at the longest", begun(2, 7, "ab-ba").normal(7), 8);
        due(8, "a law of length 4 at the longest", begun(1, 7, "aaaa").normal(8), 0);
        refused(8, "normal(8)", () -> busy("ab"), x -> x.normal(8), BAD);
        refused(8, "normal(-1)", () -> busy("ab"), x -> x.normal(-1), BAD);
    }

    private static void promise9Leads() {
        for (int n = 1; n <= 3; n++) {
            WordLaws x = begun(n, 7, "aa");
            range(9, "leads(d, 0)", 0, LONGEST[n], d -> x.leads(d, 0));
            for (int d = 0; d <= LONGEST[n]; d++) {
                int length = d;
                range(9, "leads(" + d + ", word)", 0, power(n, d) - 1, word -> x.leads(length, word));
                due(9, "the first word of length " + d, x.leads(d, 0), d < 2 ? 0 : 1);
                due(9, "the last word of length " + d, x.leads(d, power(n, d) - 1), d < 2 || n > 1 ? 0 : 1);
            }
        }
        String[] laws = {"aa", "bb", "ab-ba", "ba-ab", "aa+ab+ba+bb", "ab+0bb", "ab+7ba"};
        int[] leaders = {0, 3, 2, 2, 3, 1, 1};
        for (int i = 0; i < laws.length; i++) {
            WordLaws x = begun(2, 7, laws[i]);
            for (int word = 0; word < 4; word++) {
                due(9, "the greatest word of '" + laws[i] + "' alone leads, not " + word, x.leads(2, word), word == leaders[i] ? 1 : 0);
            }
        }
        due(9, "the last of all words of three letters", begun(3, 7, "cc").leads(5, 242), 1);
        due(9, "a word without laws", new WordLaws().leads(7, 127), 0);
        refused(9, "leads(2, 4)", () -> busy("ab"), x -> x.leads(2, 4), BAD);
        refused(9, "leads(8, 0)", () -> busy("ab"), x -> x.leads(8, 0), BAD);
    }

    private static void promise10Word() {
        for (int n = 1; n <= 3; n++) {
            WordLaws free = begun(n, 7);
            range(10, "word(d, 0)", 0, LONGEST[n], d -> free.word(d, 0));
            for (int d = 0; d <= LONGEST[n]; d++) {
                wordsRise(n, d, begun(n, 7, "aa"));
                int last = power(n, d) - 1;
                int length = d;
                range(10, "word(" + d + ", i)", 0, last, i -> free.word(length, i));
                due(10, "without laws the last word of length " + d, free.word(d, last), last);
            }
        }
        WordLaws x = begun(2, 7, FEWEST_WORDS[2]);
        due(10, "none is normal, word(2, 0)", x.word(2, 0), BAD);
        due(10, "none is normal, word(7, 0)", x.word(7, 0), BAD);
        due(10, "none is normal, word(2, -1)", x.word(2, -1), BAD);
        due(10, "the last of length 1", x.word(1, 1), 1);
        due(10, "beyond the last of length 1", x.word(1, 2), BAD);
        refused(10, "word(2, i) beyond", () -> busy("ab"), y -> y.word(2, 2), BAD);
        refused(10, "word(8, 0)", () -> busy("ab"), y -> y.word(8, 0), BAD);
    }

    private static void wordsRise(int n, int d, WordLaws x) {
        int normal = x.normal(d);
        int found = 0;
        for (int word = 0; word < power(n, d); word++) {
            if (x.leads(d, word) == 0) {
                due(10, "word(" + d + ", " + found + ")", x.word(d, found), word);
                found++;
            }
        }
        due(10, "normal words of length " + d, found, normal);
        due(10, "word(" + d + ", " + normal + ")", x.word(d, normal), BAD);
        due(10, "word(" + d + ", -1)", x.word(d, -1), BAD);
    }

    private static void promise11Plain() {
        for (int n = 1; n <= 3; n++) {
            WordLaws x = begun(n, 7, "aa");
            range(11, "plain(d, 0, 0)", 0, LONGEST[n], d -> x.plain(d, 0, 0));
            for (int d = 0; d <= LONGEST[n]; d++) {
                int length = d;
                int last = power(n, d) - 1;
                range(11, "plain(" + d + ", word, last)", 0, last, word -> x.plain(length, word, last));
                range(11, "plain(" + d + ", 0, other)", 0, last, other -> x.plain(length, 0, other));
                due(11, "a word that leads is not in its own form", x.plain(d, 0, 0), d < 2 ? 1 : 0);
                due(11, "the last word of length " + d + " in its own form", x.plain(d, last, last), d < 2 || n > 1 ? 1 : 0);
            }
        }
        WordLaws two = begun(2, 97, "ba+ab");
        due(11, "ba is -ab", two.plain(2, 1, 2), 96);
        due(11, "the other way round", two.plain(2, 2, 1), 0);
        due(11, "bbbaaaa at the longest: 12 changes", two.plain(7, 7, 112), 1);
        due(11, "aabaaaa at the longest: 4 changes", two.plain(7, 1, 16), 1);
        due(11, "abaaaaa at the longest: 5 changes", two.plain(7, 1, 32), 96);
        WordLaws three = begun(3, 2, "ab-ba", "ac-ca", "bc-cb");
        due(11, "ccbba is abbcc", three.plain(5, 44, 228), 1);
        due(11, "a form that is 0", begun(2, 7, "ba").plain(2, 1, 2), 0);
        refused(11, "word beyond", () -> busy("ab"), x -> x.plain(2, 4, 0), BAD);
        refused(11, "other beyond", () -> busy("ab"), x -> x.plain(2, 0, 4), BAD);
        refused(11, "length beyond", () -> busy("ab"), x -> x.plain(8, 0, 0), BAD);
    }

    private static void promise12Least() {
        for (int what = 0; what <= 2; what++) {
            int asks = what;
            WordLaws x = begun(2, 7, "aba-bab");
            range(12, "least(i, " + what + ")", 0, 3, i -> x.least(i, asks));
            due(12, "without laws least(0, " + what + ")", new WordLaws().least(0, what), BAD);
            range(12, "of one letter least(i, " + what + ")", 0, 0, i -> begun(1, 7, "aaaa").least(i, asks));
        }
        WordLaws x = begun(2, 7, "aba-bab");
        range(12, "least(0, what)", 0, 2, what -> x.least(0, what));
        range(12, "least(3, what)", 0, 2, what -> x.least(3, what));
        due(12, "both wrong", x.least(4, 3), BAD);
        leastLaws("by length, then rising", begun(2, 7, "abab", "bbb", "aab"), new int[][] {{3, 1, 1}, {3, 7, 1}, {4, 5, 1}});
        leastLaws("not without its last letter", begun(2, 7, "bba", "bb"), new int[][] {{2, 3, 1}});
        leastLaws("not without its first letter", begun(2, 7, "abb", "bb"), new int[][] {{2, 3, 1}});
        leastLaws("up to the longest of two", x, new int[][] {{3, 5, 2}, {5, 18, 2}, {6, 34, 2}, {7, 66, 2}});
        leastLaws("up to the longest of three", begun(3, 7, "aba-bab"), new int[][] {{3, 10, 2}, {5, 84, 2}});
        leastLaws("one letter", begun(1, 7, "3aaaa"), new int[][] {{4, 0, 1}});
        leastLaws("as many terms as words", begun(3, 2, "aa+ab+ac+ba+bb+bc+ca+cb+cc"), new int[][] {{2, 8, 9}});
        leastLaws("none", new WordLaws(), new int[][] {});
        refused(12, "least(9, 0)", () -> busy("ab"), y -> y.least(9, 0), BAD);
        refused(12, "least(0, 3)", () -> busy("ab"), y -> y.least(0, 3), BAD);
    }

    private static void leastLaws(String what, WordLaws x, int[][] laws) {
        due(12, what + ": count(4)", x.count(4), laws.length);
        for (int i = 0; i < laws.length; i++) {
            for (int k = 0; k <= 2; k++) {
                due(12, what + ": least(" + i + ", " + k + ")", x.least(i, k), laws[i][k]);
            }
        }
        due(12, what + ": beyond", x.least(laws.length, 0), BAD);
    }

    private static void promise13Product() {
        for (int n = 1; n <= 3; n++) {
            WordLaws free = begun(n, 7);
            for (int d = -1; d <= LONGEST[n] + 1; d++) {
                for (int e = -1; e <= LONGEST[n] + 1; e++) {
                    boolean fine = d >= 0 && e >= 0 && d + e <= LONGEST[n];
                    due(13, "product of lengths " + d + " and " + e, free.product(d, 0, e, 0, 0), fine ? 1 : BAD);
                }
            }
            int last = power(n, LONGEST[n]) - 1;
            int half = power(n, 2) - 1;
            int e = LONGEST[n] - 2;
            int rest = power(n, e) - 1;
            due(13, "the last words give the last word", free.product(2, half, e, rest, last), 1);
            range(13, "product of free words, i", 0, half, i -> free.product(2, i, e, rest, last));
            range(13, "product of free words, j", 0, rest, j -> free.product(2, half, e, j, last));
            range(13, "product of free words, word", 0, last, word -> free.product(2, half, e, rest, word));
        }
        WordLaws x = begun(2, 7, "ab-ba");
        range(13, "product(2, i, ..)", 0, 2, i -> x.product(2, i, 5, 5, 0));
        range(13, "product(.., 5, j, ..)", 0, 5, j -> x.product(2, 2, 5, j, 0));
        range(13, "product(.., word) of lengths 2 and 1", 0, 7, word -> x.product(2, 0, 1, 0, word));
        range(13, "product(0, i, ..)", 0, 0, i -> x.product(0, i, 7, 7, 127));
        range(13, "product(.., 0, j, ..)", 0, 0, j -> x.product(7, 7, 0, j, 127));
        int[][] wrap = {
            {HIGH, HIGH}, {HIGH, LOW}, {HIGH, LOW + 2}, {LOW, LOW}, {LOW, HIGH}, {-1, 3},
            {8, -1}, {3, -1}, {HIGH, 1}, {HIGH, 0}, {0, HIGH}, {LOW, 0}};
        for (int[] lengths : wrap) {
            due(13, "lengths " + lengths[0] + " and " + lengths[1], x.product(lengths[0], 0, lengths[1], 0, 0), BAD);
        }
        due(13, "bbb and aaaa at the longest", x.product(3, 3, 4, 0, 7), 1);
        due(13, "two empty words", x.product(0, 0, 0, 0, 0), 1);
        due(13, "the empty word ahead", x.product(0, 0, 2, 1, 1), 1);
        due(13, "the empty word behind", x.product(2, 1, 0, 0, 1), 1);
        WordLaws y = begun(2, 7, FEWEST_WORDS[2]);
        due(13, "none is normal of length 2", y.product(2, 0, 1, 0, 0), BAD);
        due(13, "none is normal of length 2, behind", y.product(1, 0, 2, 0, 0), BAD);
        due(13, "a product that is 0", y.product(1, 1, 1, 1, 3), 0);
        refused(13, "beyond the longest", () -> busy("ab"), z -> z.product(4, 0, 4, 0, 0), BAD);
        refused(13, "i beyond", () -> busy("ab"), z -> z.product(1, 2, 1, 0, 0), BAD);
    }

    private static void promise14Middle() {
        for (int n = 1; n <= 3; n++) {
            WordLaws free = begun(n, 7);
            range(14, "middle(d) of " + n, 0, LONGEST[n] - 1, free::middle);
            WordLaws least = begun(n, 7, FEWEST_WORDS[n]);
            for (int d = 0; d < LONGEST[n]; d++) {
                due(14, "without laws middle(" + d + ")", free.middle(d), d == 0 || n == 1 ? 1 : 0);
                due(14, "where all letters change places middle(" + d + ")", least.middle(d), least.normal(d));
            }
            due(14, "middle of the longest", least.middle(LONGEST[n]), BAD);
        }
        WordLaws three = begun(3, 5, "ab-ba", "bc-cb", "ac-ca");
        WordLaws two = begun(2, 2, "ab-ba");
        due(14, "all of the last length of three", three.middle(4), 15);
        due(14, "all of the last length of two", two.middle(6), 7);
        refused(14, "middle of the longest", () -> busy("ab"), x -> x.middle(7), BAD);
        refused(14, "middle(-1)", () -> busy("ab"), x -> x.middle(-1), BAD);
    }

    private static void promise15Other() {
        for (int n = 1; n <= 3; n++) {
            WordLaws free = begun(n, 7);
            range(15, "other(d) of " + n, 0, LONGEST[n], free::other);
            for (int d = 0; d <= LONGEST[n]; d++) {
                due(15, "without laws other(" + d + ")", free.other(d), d == 0 ? 1 : d == 1 ? n : 0);
            }
            for (int length = 3; length <= 4; length++) {
                WordLaws x = begun(n, 7, "a".repeat(length));
                range(15, "BAD ahead of NOT, other(d)", 0, LONGEST[n], d -> {
                    int answer = x.other(d);
                    return answer == NOT ? 0 : answer == BAD ? BAD : -99;
                });
            }
        }
        WordLaws all = begun(2, 7, FEWEST_WORDS[2]);
        WordLaws most = begun(3, 7, FEWEST_WORDS[3]);
        due(15, "all laws there are, at the longest", all.other(7), 128);
        due(15, "eight laws of nine, length 2", most.other(2), 8);
        due(15, "eight laws of nine, at the longest", most.other(5), 144);
        due(15, "a law twice", begun(2, 7, "ab", "3ab").other(2), 1);
        due(15, "the first law is longer", begun(2, 7, "aaa", "ab").other(1), NOT);
        due(15, "the last law is longer", begun(2, 7, "ab", "aaaa").other(1), NOT);
        due(15, "one between is longer", begun(2, 7, "ab", "bab", "ba").other(1), NOT);
        WordLaws x = begun(2, 7, "ab-ba", "aba");
        x.unlaw();
        due(15, "the longer law went", x.other(2), 1);
        refused(15, "other(8)", () -> busy("ab"), y -> y.other(8), BAD);
        refused(15, "NOT", () -> begun(2, 7, "ab-ba", "aba"), y -> y.other(2), NOT);
    }

    private static void promise16Fit() {
        for (int n = 1; n <= 3; n++) {
            due(16, "without laws", begun(n, 7).fit(), NONE);
            due(16, "a law of length 2", begun(n, 7, "aa").fit(), NONE);
            due(16, "a law of length 3", begun(n, 7, "aaa").fit(), NOT);
            due(16, "a law of length 4", begun(n, 7, "aaaa").fit(), NOT);
            due(16, "the last law is longer", begun(n, 7, "aa", "aaa").fit(), NOT);
            due(16, "the first law is longer", begun(n, 7, "aaa", "aa").fit(), NOT);
            due(16, "as many laws as can be", begun(n, 7, FEWEST_WORDS[n]).fit(), NONE);
        }
        WordLaws x = begun(3, 5, "2ab+cc", "ba");
        due(16, "they fit up to the last length but one", x.fit(), 5);
        due(16, "not from length 4 on", begun(3, 7, "4ab+5bc", "ca").fit(), 4);
        due(16, "the least length, not a later one", begun(2, 5, "aa-ab", "bb").fit(), 4);
        due(16, "a longer law", lawOf(x, "abc"), 2);
        due(16, "NOT", x.fit(), NOT);
        x.unlaw();
        due(16, "the longer law went", x.fit(), 5);
        x.unlaw();
        due(16, "a law less", x.fit(), NONE);
        refused(16, "NOT", () -> begun(2, 7, "ab-ba", "aba"), WordLaws::fit, NOT);
        refused(16, "NONE", () -> write(begun(2, 7, "ab-ba"), "ab"), WordLaws::fit, NONE);
    }

    // ---- 3 sums

    private static void promise17Sum() {
        for (String text : new String[] {"", "+a", "ab+", "3+1000", "a1", "abc", "aaaaaaab", "1 2"}) {
            alike(17, "the sum stays, the tape is empty, '" + text + "'", () -> after(() -> busy(text), WordLaws::sum), () -> busy(""));
        }
        for (int n = 1; n <= 3; n++) {
            WordLaws x = begun(n, 7);
            String last = "abc".substring(n - 1, n);
            for (int d = 0; d <= LONGEST[n]; d++) {
                due(17, "a word of length " + d, sumOf(x, "2" + last.repeat(d)), 1);
                due(17, "its number", x.part(d, power(n, d) - 1), 2);
                due(17, "the sum before went", x.count(5), 1);
                due(17, "the tape is empty", x.type(' ', 1), 1);
            }
        }
        WordLaws x = full("0");
        due(17, "the sum 0, with eight laws", x.sum(), 0);
        due(17, "no terms", x.count(5), 0);
        due(17, "all lengths at once", sumOf(x, "1+a+ab+abc+abca+abcab"), 6);
        due(17, "the laws stay", x.count(3), 8);
        due(17, "a term that meets its opposite", sumOf(x, "a-a+b-b"), 0);
        due(17, "p times a word", sumOf(x, "5a+b"), 1);
        WordLaws most = begun(2, 97);
        due(17, "80 bytes, a word many times", sumOf(most, EIGHTY_BYTES), 1);
        due(17, "its number", most.part(1, 0), 41);
    }

    private static void promise18Part() {
        for (int n = 1; n <= 3; n++) {
            WordLaws x = begun(n, 97);
            range(18, "part(d, 0) of " + n, 0, LONGEST[n], d -> x.part(d, 0));
            for (int d = 0; d <= LONGEST[n]; d++) {
                int length = d;
                range(18, "part(" + d + ", word) of " + n, 0, power(n, d) - 1, word -> x.part(length, word));
            }
            due(18, "a sum", sumOf(x, "5+96" + "a".repeat(LONGEST[n]) + "-a"), 3);
            due(18, "the empty word", x.part(0, 0), 5);
            due(18, "the longest a", x.part(LONGEST[n], 0), 96);
            due(18, "-1 is p - 1", x.part(1, 0), 96);
            due(18, "a word that is not in it", x.part(2, 0), 0);
        }
        refused(18, "part(8, 0)", () -> busy("ab"), x -> x.part(8, 0), BAD);
        refused(18, "part(0, 1)", () -> busy("ab"), x -> x.part(0, 1), BAD);
    }

    private static void promise19Reduce() {
        due(19, "the sum 0", new WordLaws().reduce(), 0);
        due(19, "the sum 0 with laws", begun(2, 7, "ab").reduce(), 0);
        alike(19, "without laws the sum stays", () -> {
            WordLaws x = new WordLaws();
            due(19, "six terms", sumOf(x, "3+a-ab+bab+2aaaaaaa-bbbbbbb"), 6);
            due(19, "reduce", x.reduce(), 6);
            return x;
        }, () -> {
            WordLaws x = new WordLaws();
            sumOf(x, "3+a-ab+bab+2aaaaaaa-bbbbbbb");
            return x;
        });
        WordLaws x = begun(2, 7, FEWEST_WORDS[2]);
        due(19, "a sum of lengths 0 to 7", sumOf(x, "3+a+b+ab+aba+abab+ababa+ababab+abababa"), 9);
        due(19, "only lengths 0 and 1 are left", x.reduce(), 3);
        due(19, "the empty word", x.part(0, 0), 3);
        due(19, "once more", x.reduce(), 3);
        WordLaws y = begun(2, 97, "ba+ab");
        due(19, "words of the longest", sumOf(y, "abaaaaa+aaaaaab-bbbbbbb"), 3);
        due(19, "two of them go together to 0", y.reduce(), 1);
        due(19, "the last word", y.part(7, 127), 96);
        due(19, "the tape and the laws stay", y.count(3), 1);
        WordLaws z = begun(1, 7, "aa");
        due(19, "one letter", sumOf(z, "aaaaaaaa+a"), 2);
        due(19, "a is left", z.reduce(), 1);
    }

    private static void promise20Put() {
        for (int n = 1; n <= 3; n++) {
            int longest = LONGEST[n];
            int letters = n;
            for (int which = 0; which <= 1; which++) {
                int side = which;
                range(20, "put(" + which + ", letter) of " + n, 0, n - 1, letter -> begun(letters, 7).put(side, letter));
                WordLaws x = begun(n, 7);
                due(20, "the empty word", sumOf(x, "2"), 1);
                for (int d = 1; d <= longest; d++) {
                    due(20, "put up to length " + d, x.put(which, n - 1), 1);
                    due(20, "its number", x.part(d, power(n, d) - 1), 2);
                    due(20, "the shorter word went", x.part(d - 1, power(n, d - 1) - 1), 0);
                }
                due(20, "put beyond the longest", x.put(which, 0), FULL);
                due(20, "BAD ahead of FULL: letter", x.put(which, n), BAD);
                due(20, "BAD ahead of FULL: letter -1", x.put(which, -1), BAD);
                due(20, "one of two words is of the longest", sumOf(x, "1+" + "a".repeat(longest)), 2);
                due(20, "FULL by it", x.put(which, 0), FULL);
                due(20, "no word, once it is 0", x.times(7), 0);
                due(20, "so a letter can be put", x.put(which, 0), 0);
            }
            range(20, "put(which, 0)", 0, 1, which -> begun(letters, 7).put(which, 0));
            range(20, "BAD of which ahead of FULL", 0, 1, which -> {
                WordLaws x = begun(letters, 7);
                sumOf(x, "a".repeat(longest));
                int answer = x.put(which, 0);
                return answer == FULL ? 0 : answer;
            });
        }
        WordLaws x = begun(2, 7, "bbb");
        due(20, "a word of the longest that is nought", sumOf(x, "abbbaba+a"), 2);
        due(20, "it is still there", x.put(0, 0), FULL);
        due(20, "until it is reduced", x.reduce(), 1);
        due(20, "b ahead", x.put(0, 1), 1);
        due(20, "ba", x.part(2, 2), 1);
        due(20, "b behind", x.put(1, 1), 1);
        due(20, "bab", x.part(3, 5), 1);
        due(20, "b ahead, not reduced by itself", sumOf(x, "bb"), 1);
        due(20, "bbb stays a word of the sum", x.put(0, 1), 1);
        refused(20, "FULL ahead", () -> full("ab"), y -> y.put(0, 0), FULL);
        refused(20, "FULL behind", () -> full("ab"), y -> y.put(1, 2), FULL);
        refused(20, "a letter too many", () -> busy("ab"), y -> y.put(0, 2), BAD);
        refused(20, "a side too many", () -> busy("ab"), y -> y.put(2, 0), BAD);
    }

    private static void promise21Times() {
        range(21, "times(v)", 0, 999, v -> busy("").times(v));
        range(21, "times(v) of the sum 0", 0, 999, v -> new WordLaws().times(v));
        for (int p : new int[] {2, 3, 7, 97}) {
            WordLaws x = begun(3, p);
            sumOf(x, "-1+ccccc");
            due(21, "times 1", x.times(1), 2);
            due(21, "times p - 1", x.times(p - 1), 2);
            due(21, "-1 times p - 1", x.part(0, 0), 1);
            due(21, "times 998", x.times(998), 998 % p == 0 ? 0 : 2);
            due(21, "998 by rests of " + p, x.part(0, 0), 998 % p);
            sumOf(x, "-1+ccccc");
            due(21, "times 999", x.times(999), 999 % p == 0 ? 0 : 2);
            due(21, "-999 by rests of " + p, x.part(0, 0), Math.floorMod(-999, p));
            due(21, "999 of the last word by rests of " + p, x.part(5, 242), 999 % p);
            sumOf(x, "-1+ccccc");
            due(21, "times p", x.times(p), 0);
            sumOf(x, "-1+ccccc");
            due(21, "times 0", x.times(0), 0);
            due(21, "nothing is left", x.count(5), 0);
        }
        refused(21, "times(1000)", () -> busy("ab"), x -> x.times(1000), BAD);
        refused(21, "times(-1)", () -> busy("ab"), x -> x.times(-1), BAD);
    }

    // ---- 4 sheets

    private static void promise22Sheet() {
        range(22, "sheet(sheet, 0, 1)", 0, 3, sheet -> new WordLaws().sheet(sheet, 0, 1));
        range(22, "sheet(0, lane, 1)", 0, 2, lane -> new WordLaws().sheet(0, lane, 1));
        for (int sheet = 0; sheet < 4; sheet++) {
            for (int lane = 0; lane < 3; lane++) {
                int s = sheet;
                int k = lane;
                range(22, "sheet(" + sheet + ", " + lane + ", n)", 0, 90, SIZE, BAD, n -> new WordLaws().sheet(s, k, n));
                for (int n : new int[] {0, 1, 89, 90}) {
                    WordLaws x = new WordLaws();
                    due(22, "it answers n", x.sheet(sheet, lane, n), n);
                    due(22, "the last item", x.item(sheet, lane, n - 1, 1), n > 0 ? 1 : INDEX);
                    due(22, "beyond the last item", x.item(sheet, lane, n, 1), INDEX);
                    due(22, "as many items", x.drop(sheet), n);
                }
            }
        }
        for (int n : new int[] {LOW, -1, 91, HIGH}) {
            due(22, "BAD ahead of SIZE, sheet -1", new WordLaws().sheet(-1, 0, n), BAD);
            due(22, "BAD ahead of SIZE, sheet 4", new WordLaws().sheet(4, 0, n), BAD);
            due(22, "BAD ahead of SIZE, lane -1", new WordLaws().sheet(0, -1, n), BAD);
            due(22, "BAD ahead of SIZE, lane 3", new WordLaws().sheet(0, 3, n), BAD);
        }
        newRows();
        refused(22, "n 91", () -> busy("ab"), x -> x.sheet(2, 2, 91), BAD);
        refused(22, "n -1", () -> busy("ab"), x -> x.sheet(2, 0, -1), SIZE);
        refused(22, "n -1 of a sheet that holds nothing", () -> busy("ab"), x -> x.sheet(3, 0, -1), SIZE);
        refused(22, "lane 3", () -> busy("ab"), x -> x.sheet(1, 3, 4), BAD);
        refused(22, "sheet 4", () -> busy("ab"), x -> x.sheet(4, 1, 4), BAD);
    }

    /** A new row is 0 at first, whatever the sheet held; other sheets stay. */
    private static void newRows() {
        for (int lane = 0; lane < 3; lane++) {
            WordLaws x = begun(3, 97);
            for (int held = 0; held < 3; held++) {
                x.sheet(1, held, 90);
                for (int i = 0; i < 90; i += 8) {
                    x.item(1, held, i, 5);
                }
                x.item(1, held, 89, 5);
                due(22, "a new row", x.sheet(1, lane, 90), 90);
                due(22, "its first 81 items are 0", x.laws(1, lane, 0, 4), NOT);
                due(22, "its last 81 items are 0", x.laws(1, lane, 9, 4), NOT);
            }
        }
        WordLaws y = busy("");
        due(22, "a row of 0 items", y.sheet(1, 1, 0), 0);
        due(22, "it is shorter now", y.item(1, 1, 0, 1), INDEX);
        due(22, "the sheet ahead stays", y.laws(0, 0, 0, 2), 2);
        due(22, "the sheet behind stays", y.laws(2, 2, 86, 2), 3);
        due(22, "a row of another lane", y.sheet(0, 2, 4), 4);
        due(22, "is not of the lane before", y.item(0, 0, 0, 1), CAST);
    }

    private static void promise23Drop() {
        range(23, "drop(sheet)", 0, 3, sheet -> {
            WordLaws x = new WordLaws();
            for (int i = 0; i < 4; i++) {
                x.sheet(i, 0, 10 + i);
            }
            int had = x.drop(sheet);
            return had > 0 && had != 10 + sheet ? -99 : had;
        });
        range(23, "drop(sheet) of a new object", 0, 3, sheet -> {
            int answer = new WordLaws().drop(sheet);
            return answer == NULL ? 0 : answer;
        });
        WordLaws x = new WordLaws();
        for (int n : new int[] {0, 1, 90}) {
            due(23, "a row", x.sheet(2, 1, n), n);
            due(23, "drop answers how many items it had", x.drop(2), n);
            due(23, "it holds nothing", x.drop(2), NULL);
            due(23, "nothing has no items", x.item(2, 1, 0, 1), NULL);
            due(23, "nothing is no law", x.laws(2, 1, 0, 2), NULL);
        }
        alike(23, "a sheet that was dropped is as it was at first", () -> {
            WordLaws y = busy("ab");
            y.sheet(3, 1, 9);
            y.drop(3);
            return y;
        }, () -> busy("ab"));
        refused(23, "drop of nothing", () -> busy("ab"), y -> y.drop(3), NULL);
        refused(23, "drop(-1)", () -> busy("ab"), y -> y.drop(-1), BAD);
        refused(23, "drop(4)", () -> busy("ab"), y -> y.drop(4), BAD);
    }

    private static void promise24Item() {
        range(24, "item(sheet, 0, 0, 1)", 0, 3, sheet -> {
            WordLaws x = new WordLaws();
            x.sheet(sheet, 0, 1);
            return x.item(sheet, 0, 0, 1);
        });
        for (int lane = 0; lane < 3; lane++) {
            for (int taken = -2; taken <= 4; taken++) {
                WordLaws x = new WordLaws();
                x.sheet(0, lane, 3);
                int want = taken < 0 || taken > 2 ? BAD : taken == lane ? 1 : CAST;
                due(24, "a row of lane " + lane + " taken as " + taken, x.item(0, taken, 2, 1), want);
                due(24, "INDEX behind CAST and BAD", x.item(0, taken, 3, 1), want == 1 ? INDEX : want);
                due(24, "INDEX -1 behind CAST and BAD", x.item(0, taken, -1, 1), want == 1 ? INDEX : want);
                due(24, "NULL ahead of CAST", x.item(1, taken, 0, 1), want == BAD ? BAD : NULL);
                due(24, "NULL ahead of INDEX", x.item(1, taken, -1, 1), want == BAD ? BAD : NULL);
            }
            int k = lane;
            for (int n : new int[] {1, 2, 89, 90}) {
                WordLaws x = new WordLaws();
                x.sheet(3, lane, n);
                range(24, "item(3, " + lane + ", i, 1) of " + n, 0, n - 1, INDEX, INDEX, i -> x.item(3, k, i, 1));
            }
            WordLaws empty = new WordLaws();
            empty.sheet(3, lane, 0);
            due(24, "item 0 of none", empty.item(3, lane, 0, 1), INDEX);
            due(24, "item -1 of none", empty.item(3, lane, -1, 1), INDEX);
        }
        due(24, "BAD ahead of NULL, sheet 4", new WordLaws().item(4, 0, 0, 1), BAD);
        due(24, "BAD ahead of NULL, sheet -1", new WordLaws().item(-1, 0, 0, 1), BAD);
        lowestBits();
        refused(24, "BAD", () -> busy("ab"), x -> x.item(0, 3, 0, 5), BAD);
        refused(24, "NULL", () -> busy("ab"), x -> x.item(3, 0, 0, 5), NULL);
        refused(24, "CAST", () -> busy("ab"), x -> x.item(2, 1, 0, 5), CAST);
        refused(24, "INDEX above", () -> busy("ab"), x -> x.item(0, 0, 4, 5), INDEX);
        refused(24, "INDEX below", () -> busy("ab"), x -> x.item(0, 0, -1, 5), INDEX);
    }

    /** A byte keeps the lowest eight bits of a number, with their sign; ints and longs keep it whole. */
    private static void lowestBits() {
        int[] numbers = {0, 1, -1, 127, 128, -128, -129, 255, 256, -256, 257, 32767, 32768, 65536, HIGH, LOW, LOW + 1, 97, -97};
        for (int lane = 0; lane < 3; lane++) {
            WordLaws x = begun(2, 97);
            x.sheet(0, lane, 5);
            due(24, "another item", x.item(0, lane, 0, 1), 1);
            for (int v : numbers) {
                due(24, "item " + v, x.item(0, lane, 3, v), 1);
                due(24, "as a law", x.laws(0, lane, 0, 2), 0);
                due(24, "lane " + lane + ", " + v + " by its rest", x.told(0, 3), (int) Math.floorMod(lane == 0 ? (long) (byte) v : (long) v, 97L));
                due(24, "its neighbour stays", x.told(0, 2), 0);
                due(24, "the first item stays", x.told(0, 0), 1);
                x.unlaw();
            }
        }
    }

    private static void promise25Laws() {
        range(25, "laws(sheet, 0, 0, 2)", 0, 3, sheet -> {
            WordLaws x = new WordLaws();
            x.sheet(sheet, 0, 4);
            x.item(sheet, 0, 0, 1);
            return x.laws(sheet, 0, 0, 2);
        });
        range(25, "laws(0, 0, 0, d)", 2, 4, d -> {
            WordLaws x = new WordLaws();
            x.sheet(0, 0, 16);
            x.item(0, 0, 0, 1);
            return x.laws(0, 0, 0, d);
        });
        for (int n = 1; n <= 3; n++) {
            for (int d = 2; d <= 4; d++) {
                for (int lane = 0; lane < 3; lane++) {
                    lawsFrom(n, d, lane);
                }
            }
        }
        lawsOrder();
        lawsNought();
        lawsAreFull();
        lawsKeep();
    }

    /** As many items as there are words: the last place from which there are enough, and the first from which not. */
    private static void lawsFrom(int n, int d, int lane) {
        int words = power(n, d);
        for (int size : new int[] {words, words + 1, 90}) {
            int last = size - words;
            range(25, "laws(2, " + lane + ", from, " + d + ") of " + size, 0, last, INDEX, INDEX, from -> {
                WordLaws x = begun(n, 97);
                x.sheet(2, lane, size);
                x.item(2, lane, 0, 5);
                x.item(2, lane, size - 1, 7);
                int answer = x.laws(2, lane, from, d);
                if (answer == 0) {
                    due(25, "its length", x.told(0, -1), d);
                    due(25, "its first word", x.told(0, 0), size == 1 ? 7 : from == 0 ? 5 : words == 1 ? 7 : 0);
                    due(25, "its last word", x.told(0, words - 1), from == last ? 7 : words == 1 ? 5 : 0);
                }
                return answer == NOT ? 0 : answer;
            });
        }
        for (int size : new int[] {0, words - 1}) {
            WordLaws x = begun(n, 97);
            x.sheet(2, lane, size);
            due(25, "too few items, " + size + " of " + words, x.laws(2, lane, 0, d), INDEX);
        }
        WordLaws x = begun(n, 97);
        x.sheet(2, lane, 90);
        for (int from : new int[] {HIGH, HIGH - words, HIGH - words + 1, HIGH - words + 2, LOW, -words, 90, 91}) {
            due(25, "laws from " + from, x.laws(2, lane, from, d), INDEX);
        }
    }

    private static void lawsOrder() {
        for (int lane = 0; lane < 3; lane++) {
            for (int taken = -1; taken <= 3; taken++) {
                int refusal = taken < 0 || taken > 2 ? BAD : taken == lane ? 0 : CAST;
                WordLaws x = new WordLaws();
                x.sheet(0, lane, 4);
                due(25, "lane " + lane + " as " + taken + ", and 0", x.laws(0, taken, 0, 2), refusal == 0 ? NOT : refusal);
                due(25, "lane " + lane + " as " + taken + ", too far, and 0", x.laws(0, taken, 1, 2), refusal == 0 ? INDEX : refusal);
                due(25, "lane " + lane + " as " + taken + ", from -1", x.laws(0, taken, -1, 2), refusal == 0 ? INDEX : refusal);
                due(25, "lane " + lane + " as " + taken + ", length 1", x.laws(0, taken, -1, 1), BAD);
                due(25, "lane " + lane + " as " + taken + ", length 5", x.laws(0, taken, 0, 5), BAD);
                due(25, "nothing as " + taken, x.laws(1, taken, 0, 2), refusal == BAD ? BAD : NULL);
                due(25, "nothing as " + taken + ", from -1", x.laws(1, taken, -1, 4), refusal == BAD ? BAD : NULL);
                due(25, "nothing as " + taken + ", length 1", x.laws(1, taken, 0, 1), BAD);
                due(25, "nothing as " + taken + ", length 5", x.laws(1, taken, 0, 5), BAD);
                due(25, "sheet 4 as " + taken, x.laws(4, taken, 0, 2), BAD);
                due(25, "sheet -1 as " + taken, x.laws(-1, taken, 0, 2), BAD);
            }
        }
        refused(25, "eight laws, BAD", () -> full("ab"), x -> x.laws(2, 2, 0, 5), BAD);
        refused(25, "eight laws, NULL", () -> full("ab"), x -> x.laws(3, 2, 0, 2), NULL);
        refused(25, "eight laws, CAST", () -> full("ab"), x -> x.laws(2, 1, 0, 2), CAST);
        refused(25, "eight laws, INDEX", () -> full("ab"), x -> x.laws(2, 2, 82, 2), INDEX);
        refused(25, "eight laws, NOT", () -> full("ab"), x -> x.laws(2, 2, 1, 2), NOT);
        refused(25, "eight laws, FULL", () -> full("ab"), x -> x.laws(2, 2, 0, 2), FULL);
        refused(25, "BAD", () -> busy("ab"), x -> x.laws(1, 1, 0, 1), BAD);
        refused(25, "NULL", () -> busy("ab"), x -> x.laws(3, 1, 0, 2), NULL);
        refused(25, "CAST", () -> busy("ab"), x -> x.laws(1, 0, 0, 2), CAST);
        refused(25, "INDEX", () -> busy("ab"), x -> x.laws(1, 1, 6, 2), INDEX);
        refused(25, "NOT", () -> busy("ab"), x -> x.laws(1, 1, 1, 2), NOT);
    }

    private static void lawsNought() {
        for (int lane = 0; lane < 3; lane++) {
            WordLaws x = begun(2, 5);
            x.sheet(0, lane, 4);
            due(25, "a row at first is 0", x.laws(0, lane, 0, 2), NOT);
            int[] multiples = {5, -5, 125, -125};
            for (int i = 0; i < 4; i++) {
                x.item(0, lane, i, multiples[i]);
            }
            due(25, "all rests are 0", x.laws(0, lane, 0, 2), NOT);
            due(25, "no law came", x.count(3), 0);
            x.item(0, lane, 3, -126);
            due(25, "one rest is not", x.laws(0, lane, 0, 2), 0);
            due(25, "it is 0 or more", x.told(0, 3), 4);
            due(25, "the others are 0", x.told(0, 0) + x.told(0, 1) + x.told(0, 2), 0);
        }
    }

    private static void lawsAreFull() {
        WordLaws x = begun(2, 7);
        x.sheet(0, 1, 16);
        x.item(0, 1, 0, 1);
        for (int i = 0; i < 8; i++) {
            due(25, "law " + i, i % 2 == 0 ? x.laws(0, 1, 0, 2 + i % 3) : lawOf(x, "ab"), i);
        }
        due(25, "a ninth", x.laws(0, 1, 0, 2), FULL);
        due(25, "NOT ahead of FULL", x.laws(0, 1, 1, 2), NOT);
        due(25, "INDEX ahead of FULL", x.laws(0, 1, 1, 4), INDEX);
        due(25, "unlaw", x.unlaw(), 7);
        due(25, "room again", x.laws(0, 1, 0, 4), 7);
        due(25, "full again", x.laws(0, 1, 0, 4), FULL);
    }

    /** The tape, the sum and the row stay as they are; the law does not change with the row. */
    private static void lawsKeep() {
        WordLaws x = busy("ab");
        due(25, "a law of length 3", x.laws(2, 2, 82, 3), 2);
        due(25, "bbb has the last item", x.told(2, 7), 4);
        due(25, "another item", x.item(2, 2, 89, 3), 1);
        due(25, "the law has its number still", x.told(2, 7), 4);
        due(25, "the row is dropped", x.drop(2), 90);
        due(25, "the law is still there", x.told(2, -1), 3);
        due(25, "it has its number still", x.told(2, 7), 4);
        due(25, "bbb leads by it", x.leads(3, 7), 1);
        due(25, "the sum stays", x.count(5), 4);
        due(25, "the tape stays", x.type('a', 1), 3);
    }

    // ---- how long an object is used

    /** Each round makes eight calls, so the last call of the last round is the 512th. */
    private static void promises1To25For512Calls() {
        WordLaws x = new WordLaws();
        WordLaws y = new WordLaws();
        for (int round = 0; round < 64; round++) {
            roundOfWords(x, 2 + round % 2);
            roundOfSheets(y, round);
        }
    }

    private static void roundOfWords(WordLaws x, int n) {
        due(2, "begin again", x.begin(n, 97), LONGEST[n]);
        due(3, "type again", x.type(bytes("ab-2ba"), 6), 6);
        due(4, "law again", x.law(), 0);
        due(7, "least laws again", x.count(4), 1);
        due(3, "type again", x.type(bytes("bba"), 3), 3);
        due(17, "sum again", x.sum(), 1);
        due(19, "reduce again", x.reduce(), 1);
        due(18, "bba is 49 times 49 abb", x.part(3, n + 1), 73);
    }

    private static void roundOfSheets(WordLaws x, int round) {
        due(22, "sheet again", x.sheet(round % 4, round % 3, 90), 90);
        due(24, "item again", x.item(round % 4, round % 3, 89, 1), 1);
        due(25, "laws again", x.laws(round % 4, round % 3, 82, 3), 0);
        due(8, "normal words again", x.normal(7), 81);
        due(16, "a law of length 3 again", x.fit(), NOT);
        due(5, "unlaw again", x.unlaw(), 0);
        due(8, "all words are normal again", x.normal(7), 128);
        due(23, "drop again", x.drop(round % 4), 90);
    }
}
