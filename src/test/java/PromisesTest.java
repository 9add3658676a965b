/** Each promise by hand: ordinary inputs, the edges that the document names, wrong inputs, the order of refusals. */
public final class PromisesTest {
    private static final int LOW = Integer.MIN_VALUE;
    private static final int HIGH = Integer.MAX_VALUE;
    private static int wrong = 0;

    public static void main(String[] args) {
        newObject();
        begin();
        type();
        law();
        faults();
        unlawAndTold();
        count();
        normalLeadsWord();
        plainAndLeast();
        product();
        middle();
        otherAndFit();
        sum();
        reduceAndPart();
        put();
        times();
        sheetAndDrop();
        item();
        laws();
        System.out.println(wrong == 0 ? "all promises hold" : wrong + " answers are not as promised");
        if (wrong != 0) {
            System.exit(1);
        }
    }

    private static void due(String call, int got, int want) {
        if (got != want) {
            wrong++;
            System.out.println(call + " answered " + got + ", due is " + want);
        }
    }

    private static long bytes(String text) {
        long w = 0;
        for (char c : text.toCharArray()) {
            w = w << 8 | c;
        }
        return w;
    }

    private static void write(WordLaws x, String text) {
        for (int i = 0; i < text.length(); i += 8) {
            String piece = text.substring(i, Math.min(text.length(), i + 8));
            due("type '" + piece + "' answers the bytes", Math.min(1, x.type(bytes(piece), piece.length())), 1);
        }
    }

    private static int lawOf(WordLaws x, String text) {
        write(x, text);
        return x.law();
    }

    private static int sumOf(WordLaws x, String text) {
        write(x, text);
        return x.sum();
    }

    private static WordLaws with(int n, int p, String... laws) {
        WordLaws x = new WordLaws();
        x.begin(n, p);
        for (String law : laws) {
            due("law '" + law + "' is taken", lawOf(x, law) >= 0 ? 1 : 0, 1);
        }
        return x;
    }

    private static void newObject() {
        WordLaws x = new WordLaws();
        due("new count(0)", x.count(0), 2);
        due("new count(1)", x.count(1), 7);
        due("new count(2)", x.count(2), 7);
        due("new count(3)", x.count(3), 0);
        due("new count(4)", x.count(4), 0);
        due("new count(5)", x.count(5), 0);
        due("new law(): the tape is empty", x.law(), -20);
        for (int sheet = 0; sheet < 4; sheet++) {
            due("new drop: sheets hold nothing", x.drop(sheet), WordLaws.NULL);
        }
    }

    private static void begin() {
        WordLaws x = new WordLaws();
        due("begin(1, 2)", x.begin(1, 2), 8);
        due("begin(2, 97)", x.begin(2, 97), 7);
        due("begin(3, 89)", x.begin(3, 89), 5);
        int primes = 0;
        for (int p = -3; p <= 130; p++) {
            primes += new WordLaws().begin(2, p) == 7 ? 1 : 0;
        }
        due("primes 2 .. 97", primes, 25);
        for (int p : new int[] {LOW, -7, 0, 1, 4, 9, 49, 91, 95, 98, 101, HIGH}) {
            due("begin(3, " + p + ")", x.begin(3, p), WordLaws.BAD);
        }
        for (int n : new int[] {LOW, -1, 0, 4, HIGH}) {
            due("begin(" + n + ", 7)", x.begin(n, 7), WordLaws.BAD);
        }
        due("what is refused changes nothing", x.count(1), 89);
        lawOf(x, "ab-ba");
        sumOf(x, "a+b");
        x.sheet(2, 1, 9);
        due("type ahead of begin", x.type(bytes("ab"), 2), 2);
        due("begin(2, 5)", x.begin(2, 5), 7);
        due("no laws", x.count(3), 0);
        due("the sum is 0", x.count(5), 0);
        due("all words are normal again", x.normal(2), 4);
        due("the tape stays", x.type(bytes("c"), 1), 3);
        due("sheets stay", x.drop(2), 9);
    }

    private static void type() {
        WordLaws x = new WordLaws();
        due("type n 0", x.type(bytes("a"), 0), WordLaws.BAD);
        due("type n 9", x.type(bytes("aaaaaaaa"), 9), WordLaws.BAD);
        due("type n low", x.type(bytes("a"), LOW), WordLaws.BAD);
        due("type byte 31", x.type(31, 1), WordLaws.BAD);
        due("type byte 127", x.type(127, 1), WordLaws.BAD);
        due("type byte 255", x.type(-1L, 8), WordLaws.BAD);
        due("type byte 0 high", x.type(97, 2), WordLaws.BAD);
        due("type byte 0 in the middle", x.type(0x610061L, 3), WordLaws.BAD);
        due("type bytes 32, 126", x.type(0x207eL, 2), 2);
        due("type the lowest alone", x.type(0xff00000000000061L, 1), 3);
        due("sum reads ' ~a'", x.sum(), -21);
        due("highest first", sumOf(x, "ab"), 1);
        due("ab is 1", x.part(2, 1), 1);
        for (int i = 1; i <= 9; i++) {
            due("type eight", x.type(bytes("aaaaaaaa"), 8), 8 * i);
        }
        due("type 79", x.type(bytes("aaaaaaa"), 7), 79);
        due("type 81", x.type(bytes("aa"), 2), WordLaws.FULL);
        due("type BAD ahead of FULL", x.type(bytes("a") << 8, 2), WordLaws.BAD);
        due("type 80", x.type(bytes("a"), 1), 80);
        due("type beyond 80", x.type(bytes("a"), 1), WordLaws.FULL);
        due("sum of 80 bytes", x.sum(), -27);
        due("the tape is empty", x.type(bytes("a"), 1), 1);
    }

    private static void law() {
        WordLaws x = new WordLaws();
        due("law aa", lawOf(x, "aa"), 0);
        due("law abab", lawOf(x, "3abab-bbbb"), 1);
        due("the tape is empty behind law", x.type(bytes("a"), 1), 1);
        due("law a: too short", x.law(), WordLaws.NOT);
        due("the tape is empty behind NOT", x.type(bytes("ab"), 2), 2);
        due("law ab", x.law(), 2);
        due("law of 5 letters", lawOf(x, "abaab"), WordLaws.NOT);
        due("law of a number", lawOf(x, "3"), WordLaws.NOT);
        due("law of two lengths", lawOf(x, "ab+aab"), WordLaws.NOT);
        due("law 0", lawOf(x, "0ab"), WordLaws.NOT);
        due("law 7 of 7", lawOf(x, "7ab"), WordLaws.NOT);
        due("law ab - ab", lawOf(x, "ab-ab"), WordLaws.NOT);
        due("a number 0 is no word of the sum", lawOf(x, "ab+0a+7bbb"), 3);
        for (int i = 4; i < 8; i++) {
            due("law " + i, lawOf(x, "bab"), i);
        }
        due("FAULT ahead of FULL", lawOf(x, "ab+"), -23);
        due("NOT ahead of FULL", lawOf(x, "a"), WordLaws.NOT);
        due("FULL", lawOf(x, "ab"), WordLaws.FULL);
        due("count stays", x.count(3), 8);
        due("the tape is empty behind FULL", x.type(bytes("ab"), 2), 2);
        due("the sum stays", x.count(5), 0);
    }

    private static void faults() {
        String[] texts = {"", "   ", "+a", "a+", "a+ ", "-", "--a", "a++b", "1 2", "12 a 3", "a1", "1000", "-  1000ab",
            "ab + 12345", "000999", "0001000", "99 9", "c", "ab C", "aaaaaaa", "aaaaaaaa", "a a a a a a a a", "3-", "3-4",
            "a*b", " - 5 a b ", "a -", "2aaaaaaab", "0", "1000c", "c1000"};
        int[] answers = {-20, -23, -20, -22, -23, -21, -21, -22, -22, -25, -21, -20, -23,
            -25, 1, -20, -23, -20, -23, 1, -27, -34, -22, 1,
            -21, 1, -23, -28, 0, -20, -20};
        for (int i = 0; i < texts.length; i++) {
            due("sum '" + texts[i] + "'", sumOf(new WordLaws(), texts[i]), answers[i]);
        }
        WordLaws one = with(1, 2);
        due("eight letters of one", sumOf(one, "aaaaaaaa"), 1);
        due("nine letters of one", sumOf(one, "aaaaaaaaa"), -28);
        due("b of one letter", sumOf(one, "ab"), -21);
        WordLaws three = with(3, 2);
        due("five letters of three", sumOf(three, "abcab"), 1);
        due("six letters of three", sumOf(three, "abcabc"), -25);
        due("d of three letters", sumOf(three, "abcd"), -23);
        due("a byte below the letters", sumOf(three, "ab`"), -22);
        due("law's fault", lawOf(three, "ab-d"), -23);
        due("the tape is empty behind a fault", lawOf(three, "ab"), 0);
    }

    private static void unlawAndTold() {
        WordLaws x = new WordLaws();
        due("unlaw of none", x.unlaw(), WordLaws.NOT);
        due("told of none", x.told(0, -1), WordLaws.BAD);
        lawOf(x, "ab-3ba");
        lawOf(x, "bbb");
        due("told length", x.told(0, -1), 2);
        due("told aa", x.told(0, 0), 0);
        due("told ab", x.told(0, 1), 1);
        due("told ba", x.told(0, 2), 4);
        due("told bb", x.told(0, 3), 0);
        due("told beyond", x.told(0, 4), WordLaws.BAD);
        due("told -2", x.told(0, -2), WordLaws.BAD);
        due("told law 1 length", x.told(1, -1), 3);
        due("told bbb", x.told(1, 7), 1);
        due("told bbb beyond", x.told(1, 8), WordLaws.BAD);
        due("told law 2", x.told(2, 0), WordLaws.BAD);
        due("told law -1", x.told(-1, 0), WordLaws.BAD);
        due("told far", x.told(HIGH, LOW), WordLaws.BAD);
        due("normal(3) with both", x.normal(3), 3);
        due("unlaw", x.unlaw(), 1);
        due("told of a law that went", x.told(1, -1), WordLaws.BAD);
        due("normal(3) with one", x.normal(3), 4);
        due("a law of another length in its place", lawOf(x, "aa"), 1);
        due("told aa", x.told(1, 0), 1);
        due("told, no number of the law before", x.told(1, 3), 0);
        due("unlaw again", x.unlaw(), 1);
        due("unlaw the last", x.unlaw(), 0);
        due("unlaw of none", x.unlaw(), WordLaws.NOT);
        due("normal(3) with none", x.normal(3), 8);
    }

    private static void count() {
        WordLaws x = with(3, 5, "ab-ba", "bc-cb", "ac-ca");
        sumOf(x, "a+b+5c+ab-2ab");
        due("letters", x.count(0), 3);
        due("prime", x.count(1), 5);
        due("longest", x.count(2), 5);
        due("laws", x.count(3), 3);
        due("least laws", x.count(4), 3);
        due("terms", x.count(5), 3);
        due("count(-1)", x.count(-1), WordLaws.BAD);
        due("count(6)", x.count(6), WordLaws.BAD);
        due("count far", x.count(HIGH), WordLaws.BAD);
        WordLaws overlap = with(2, 7, "aba-bab");
        due("least laws of all lengths", overlap.count(4), 4);
    }

    private static void normalLeadsWord() {
        WordLaws x = with(2, 7, "ab-ba");
        for (int d = 0; d <= 7; d++) {
            due("normal(" + d + ") of two letters that change places", x.normal(d), d + 1);
        }
        due("normal(-1)", x.normal(-1), WordLaws.BAD);
        due("normal(8)", x.normal(8), WordLaws.BAD);
        due("normal far", x.normal(LOW), WordLaws.BAD);
        due("ba leads", x.leads(2, 2), 1);
        due("ab does not", x.leads(2, 1), 0);
        due("the empty word does not", x.leads(0, 0), 0);
        due("abab leads by its part", x.leads(4, 5), 1);
        due("leads beyond", x.leads(2, 4), WordLaws.BAD);
        due("leads -1", x.leads(2, -1), WordLaws.BAD);
        due("leads(8, 0)", x.leads(8, 0), WordLaws.BAD);
        due("leads(-1, 0)", x.leads(-1, 0), WordLaws.BAD);
        int[] normal = {0, 1, 3, 7};
        for (int i = 0; i < 4; i++) {
            due("word(3, " + i + ")", x.word(3, i), normal[i]);
        }
        due("word(3, 4)", x.word(3, 4), WordLaws.BAD);
        due("word(3, -1)", x.word(3, -1), WordLaws.BAD);
        due("word(8, 0)", x.word(8, 0), WordLaws.BAD);
        due("word(-1, 0)", x.word(-1, 0), WordLaws.BAD);
        due("word(0, 0)", x.word(0, 0), 0);
        WordLaws one = with(1, 3, "2aaa");
        due("one letter: aa", one.normal(2), 1);
        due("one letter: aaa", one.normal(3), 0);
        due("one letter: word of none", one.word(3, 0), WordLaws.BAD);
        due("one letter: the longest", one.normal(8), 0);
        due("one letter: beyond", one.normal(9), WordLaws.BAD);
        due("one letter: leads", one.leads(8, 0), 1);
        due("one letter: word 1", one.leads(8, 1), WordLaws.BAD);
    }

    private static void plainAndLeast() {
        WordLaws x = with(2, 7, "ab-3ba");
        due("ba is 5 ab", x.plain(2, 1, 2), 5);
        due("ba in ba", x.plain(2, 2, 2), 0);
        due("ab in ab", x.plain(2, 1, 1), 1);
        due("a greater word", x.plain(2, 3, 2), 0);
        due("bba is 25 abb", x.plain(3, 3, 6), 4);
        due("plain beyond", x.plain(2, 4, 0), WordLaws.BAD);
        due("plain other beyond", x.plain(2, 0, 4), WordLaws.BAD);
        due("plain -1", x.plain(2, -1, 0), WordLaws.BAD);
        due("plain other -1", x.plain(2, 0, -1), WordLaws.BAD);
        due("plain(8, 0, 0)", x.plain(8, 0, 0), WordLaws.BAD);
        due("plain(-1, 0, 0)", x.plain(-1, 0, 0), WordLaws.BAD);
        due("plain(0, 0, 0)", x.plain(0, 0, 0), 1);
        WordLaws y = with(2, 7, "aba-bab");
        int[][] least = {{3, 5, 2}, {5, 18, 2}, {6, 34, 2}, {7, 66, 2}};
        for (int i = 0; i < 4; i++) {
            for (int what = 0; what < 3; what++) {
                due("least(" + i + ", " + what + ")", y.least(i, what), least[i][what]);
            }
        }
        due("least(4, 0)", y.least(4, 0), WordLaws.BAD);
        due("least(-1, 0)", y.least(-1, 0), WordLaws.BAD);
        due("least(0, 3)", y.least(0, 3), WordLaws.BAD);
        due("least(0, -1)", y.least(0, -1), WordLaws.BAD);
        due("least far", y.least(HIGH, 0), WordLaws.BAD);
        WordLaws z = with(2, 7, "bb", "bbb", "aab");
        due("a law with a part that leads is not least", z.count(4), 2);
        due("one term", z.least(0, 2), 1);
    }

    private static void product() {
        WordLaws x = with(2, 7, "ab-3ba");
        due("b times a: 5 ab", x.product(1, 1, 1, 0, 1), 5);
        due("b times a: no ba", x.product(1, 1, 1, 0, 2), 0);
        due("a times b", x.product(1, 0, 1, 1, 1), 1);
        due("empty times bb", x.product(0, 0, 2, 2, 3), 1);
        due("bb times empty", x.product(2, 2, 0, 0, 3), 1);
        due("bb times aa: 5 to the fourth aabb", x.product(2, 2, 2, 0, 3), 2);
        due("lengths 3 and 4", x.product(3, 0, 4, 0, 0), 1);
        due("lengths 4 and 4", x.product(4, 0, 4, 0, 0), WordLaws.BAD);
        due("lengths far", x.product(HIGH, 0, HIGH, 0, 0), WordLaws.BAD);
        due("length -1", x.product(-1, 0, 2, 0, 0), WordLaws.BAD);
        due("length e -1", x.product(2, 0, -1, 0, 0), WordLaws.BAD);
        due("i beyond", x.product(2, 3, 1, 0, 0), WordLaws.BAD);
        due("j beyond", x.product(1, 0, 2, 3, 0), WordLaws.BAD);
        due("i -1", x.product(1, -1, 1, 0, 0), WordLaws.BAD);
        due("j -1", x.product(1, 0, 1, -1, 0), WordLaws.BAD);
        due("word beyond", x.product(1, 0, 1, 0, 4), WordLaws.BAD);
        due("word -1", x.product(1, 0, 1, 0, -1), WordLaws.BAD);
    }

    private static void middle() {
        WordLaws free = new WordLaws();
        due("free middle(0)", free.middle(0), 1);
        due("free middle(3)", free.middle(3), 0);
        due("middle(-1)", free.middle(-1), WordLaws.BAD);
        due("middle(6)", free.middle(6), 0);
        due("middle of the longest", free.middle(7), WordLaws.BAD);
        due("middle far", free.middle(HIGH), WordLaws.BAD);
        WordLaws both = with(3, 5, "ab-ba", "bc-cb", "ac-ca");
        due("all in the middle", both.middle(4), 15);
        WordLaws squares = with(2, 7, "aa+bb");
        due("middle(2)", squares.middle(2), 2);
        due("middle(3)", squares.middle(3), 0);
        due("middle(4)", squares.middle(4), 3);
        due("a law more", lawOf(squares, "ab-ba"), 1);
        due("middle(3) anew", squares.middle(3), 2);
        due("a law less", squares.unlaw(), 1);
        due("middle(3) as before", squares.middle(3), 0);
        WordLaws one = with(1, 2);
        due("one letter", one.middle(7), 1);
        due("one letter, the longest", one.middle(8), WordLaws.BAD);
    }

    private static void otherAndFit() {
        WordLaws x = with(3, 5, "ab-ba", "bc-cb", "ac-ca");
        int[] outer = {1, 3, 3, 1, 0, 0};
        for (int d = 0; d <= 5; d++) {
            due("other(" + d + ")", x.other(d), outer[d]);
        }
        due("other(-1)", x.other(-1), WordLaws.BAD);
        due("other(6)", x.other(6), WordLaws.BAD);
        due("they fit", x.fit(), WordLaws.NONE);
        lawOf(x, "abc");
        due("a law of length 3", x.other(2), WordLaws.NOT);
        due("BAD ahead of NOT", x.other(6), WordLaws.BAD);
        due("fit NOT", x.fit(), WordLaws.NOT);
        x.unlaw();
        due("other behind unlaw", x.other(3), 1);
        WordLaws free = new WordLaws();
        due("without laws other(1)", free.other(1), 2);
        due("without laws other(2)", free.other(2), 0);
        due("without laws fit", free.fit(), WordLaws.NONE);
        WordLaws all = with(2, 3, "aa", "ab", "ba", "bb");
        due("all laws: other(7)", all.other(7), 128);
        due("all laws: fit", all.fit(), WordLaws.NONE);
        WordLaws bent = with(2, 5, "aa-ab", "bb");
        due("series that do not fit", bent.fit(), 4);
    }

    private static void sum() {
        WordLaws x = new WordLaws();
        due("sum", sumOf(x, "ab - 8ba + 3 + 999"), 3);
        due("3 + 999", x.part(0, 0), 1);
        due("ab", x.part(2, 1), 1);
        due("-8 ba", x.part(2, 2), 6);
        due("a fault", sumOf(x, "a+?"), -22);
        due("the sum stays", x.count(5), 3);
        due("the tape does not", x.sum(), -20);
        due("words come together", sumOf(x, "ab+ab+5ab+a-a"), 0);
        due("the sum is new", x.part(2, 2), 0);
    }

    private static void reduceAndPart() {
        WordLaws x = with(2, 7, "ab-ba");
        due("three terms", sumOf(x, "bbaa+3ab-3ba+2"), 4);
        due("part ahead of reduce", x.part(4, 12), 1);
        due("reduce", x.reduce(), 2);
        due("aabb", x.part(4, 3), 1);
        due("bbaa", x.part(4, 12), 0);
        due("2", x.part(0, 0), 2);
        due("count(5)", x.count(5), 2);
        due("reduce again", x.reduce(), 2);
        due("part(-1, 0)", x.part(-1, 0), WordLaws.BAD);
        due("part(8, 0)", x.part(8, 0), WordLaws.BAD);
        due("part(7, 127)", x.part(7, 127), 0);
        due("part(7, 128)", x.part(7, 128), WordLaws.BAD);
        due("part(0, -1)", x.part(0, -1), WordLaws.BAD);
        due("a law more", lawOf(x, "aa"), 1);
        due("a law alone does not change the sum", x.count(5), 2);
        due("reduce by it", x.reduce(), 1);
    }

    private static void put() {
        WordLaws x = new WordLaws();
        due("put to 0", x.put(0, 1), 0);
        sumOf(x, "a+3bb+2");
        due("put b ahead", x.put(0, 1), 3);
        due("ba", x.part(2, 2), 1);
        due("bbb", x.part(3, 7), 3);
        due("b", x.part(1, 1), 2);
        due("put a behind", x.put(1, 0), 3);
        due("baa", x.part(3, 4), 1);
        due("bbba", x.part(4, 14), 3);
        due("ba", x.part(2, 2), 2);
        due("which -1", x.put(-1, 0), WordLaws.BAD);
        due("which 2", x.put(2, 0), WordLaws.BAD);
        due("letter -1", x.put(0, -1), WordLaws.BAD);
        due("letter c of two", x.put(0, 2), WordLaws.BAD);
        sumOf(x, "aaaaaab+1");
        due("letter c ahead of FULL", x.put(1, 2), WordLaws.BAD);
        due("FULL ahead", x.put(0, 0), WordLaws.FULL);
        due("FULL behind", x.put(1, 0), WordLaws.FULL);
        due("the sum stays", x.part(0, 0), 1);
        due("a number 0 has no word", sumOf(x, "0aaaaaab+1"), 1);
        due("so it can be put", x.put(1, 1), 1);
        for (int i = 2; i <= 7; i++) {
            due("put up to the longest", x.put(1, 1), 1);
        }
        due("bbbbbbb", x.part(7, 127), 1);
        due("and no further", x.put(1, 1), WordLaws.FULL);
    }

    private static void times() {
        WordLaws x = new WordLaws();
        sumOf(x, "a+3b");
        due("times 999", x.times(999), 2);
        due("999 a", x.part(1, 0), 5);
        due("2997 b", x.part(1, 1), 1);
        due("times -1", x.times(-1), WordLaws.BAD);
        due("times 1000", x.times(1000), WordLaws.BAD);
        due("times far", x.times(LOW), WordLaws.BAD);
        due("it stays", x.part(1, 0), 5);
        due("times 1", x.times(1), 2);
        due("times 14", x.times(14), 0);
        due("nothing is left", x.count(5), 0);
        sumOf(x, "a");
        due("times 0", x.times(0), 0);
    }

    private static void sheetAndDrop() {
        WordLaws x = new WordLaws();
        due("sheet 3, longs, 90", x.sheet(3, 2, 90), 90);
        due("sheet 0, bytes, 0", x.sheet(0, 0, 0), 0);
        due("sheet n 91", x.sheet(3, 2, 91), WordLaws.BAD);
        due("sheet n -1", x.sheet(3, 2, -1), WordLaws.SIZE);
        due("sheet n low", x.sheet(3, 2, LOW), WordLaws.SIZE);
        due("sheet -1: BAD ahead of SIZE", x.sheet(-1, 0, -1), WordLaws.BAD);
        due("sheet 4", x.sheet(4, 0, 1), WordLaws.BAD);
        due("lane 3: BAD ahead of SIZE", x.sheet(0, 3, -1), WordLaws.BAD);
        due("lane -1", x.sheet(0, -1, 1), WordLaws.BAD);
        due("the row stays", x.item(3, 2, 89, 5), 1);
        due("drop", x.drop(3), 90);
        due("drop again", x.drop(3), WordLaws.NULL);
        due("drop of an empty row", x.drop(0), 0);
        due("drop -1", x.drop(-1), WordLaws.BAD);
        due("drop 4", x.drop(4), WordLaws.BAD);
        due("a new row", x.sheet(3, 1, 4), 4);
        x.item(3, 1, 2, 1);
        due("a newer row", x.sheet(3, 1, 4), 4);
        due("is 0 at first", x.laws(3, 1, 0, 2), WordLaws.NOT);
    }

    private static void item() {
        WordLaws x = new WordLaws();
        due("item of none", x.item(1, 0, 0, 1), WordLaws.NULL);
        due("item sheet -1", x.item(-1, 0, 0, 1), WordLaws.BAD);
        due("item sheet 4", x.item(4, 0, 0, 1), WordLaws.BAD);
        due("item lane 3: BAD ahead of NULL", x.item(1, 3, 0, 1), WordLaws.BAD);
        due("item lane -1", x.item(1, -1, 0, 1), WordLaws.BAD);
        x.sheet(1, 0, 4);
        due("item lane: CAST ahead of INDEX", x.item(1, 1, 4, 1), WordLaws.CAST);
        due("item 4", x.item(1, 0, 4, 1), WordLaws.INDEX);
        due("item -1", x.item(1, 0, -1, 1), WordLaws.INDEX);
        due("item far", x.item(1, 0, HIGH, 1), WordLaws.INDEX);
        due("item 3", x.item(1, 0, 3, 200), 1);
        due("item 0", x.item(1, 0, 0, 256), 1);
        due("item 1", x.item(1, 0, 1, 128 + 256), 1);
        x.laws(1, 0, 0, 2);
        due("200 is the byte -56", x.told(0, 3), 0);
        due("256 is the byte 0", x.told(0, 0), 0);
        due("384 is the byte -128", x.told(0, 1), 5);
        x.sheet(2, 1, 4);
        x.item(2, 1, 0, LOW);
        x.item(2, 1, 1, 200);
        x.laws(2, 1, 0, 2);
        due("the least int", x.told(1, 0), 5);
        due("200 of ints", x.told(1, 1), 4);
        x.sheet(2, 2, 4);
        x.item(2, 2, 0, -1);
        x.item(2, 2, 1, HIGH);
        x.laws(2, 2, 0, 2);
        due("-1 of longs", x.told(2, 0), 6);
        due("the greatest int", x.told(2, 1), 1);
    }

    private static void laws() {
        WordLaws x = new WordLaws();
        due("laws of none", x.laws(0, 0, 0, 2), WordLaws.NULL);
        due("laws sheet -1", x.laws(-1, 0, 0, 2), WordLaws.BAD);
        due("laws sheet 4", x.laws(4, 0, 0, 2), WordLaws.BAD);
        due("laws lane 3", x.laws(0, 3, 0, 2), WordLaws.BAD);
        due("laws d 1: BAD ahead of NULL", x.laws(0, 0, 0, 1), WordLaws.BAD);
        due("laws d 5", x.laws(0, 0, 0, 5), WordLaws.BAD);
        x.sheet(0, 1, 16);
        due("CAST ahead of INDEX", x.laws(0, 0, -1, 2), WordLaws.CAST);
        due("INDEX ahead of NOT", x.laws(0, 1, 1, 4), WordLaws.INDEX);
        due("INDEX -1", x.laws(0, 1, -1, 2), WordLaws.INDEX);
        due("INDEX far", x.laws(0, 1, HIGH, 4), WordLaws.INDEX);
        due("INDEX low", x.laws(0, 1, LOW, 4), WordLaws.INDEX);
        due("NOT", x.laws(0, 1, 0, 4), WordLaws.NOT);
        x.item(0, 1, 15, -7);
        due("NOT by rests", x.laws(0, 1, 0, 4), WordLaws.NOT);
        x.item(0, 1, 13, 1);
        x.item(0, 1, 14, -1);
        sumOf(x, "a+b");
        due("the last four", x.laws(0, 1, 12, 2), 0);
        due("told ab", x.told(0, 1), 1);
        due("told ba", x.told(0, 2), 6);
        due("it is a law", x.normal(7), 8);
        due("the sum stays", x.part(1, 1), 1);
        due("all sixteen", x.laws(0, 1, 0, 4), 1);
        due("of length 4", x.told(1, -1), 4);
        due("of length 3", x.laws(0, 1, 8, 3), 2);
        for (int i = 3; i < 8; i++) {
            due("law " + i, x.laws(0, 1, 12, 2), i);
        }
        due("NOT ahead of FULL", x.laws(0, 1, 0, 2), WordLaws.NOT);
        due("FULL", x.laws(0, 1, 12, 2), WordLaws.FULL);
        WordLaws wide = with(3, 97);
        wide.sheet(0, 2, 90);
        wide.item(0, 2, 89, 5);
        due("81 of 90", wide.laws(0, 2, 9, 4), 0);
        due("cccc", wide.told(0, 80), 5);
        due("one too far", wide.laws(0, 2, 10, 4), WordLaws.INDEX);
        WordLaws narrow = with(1, 2);
        narrow.sheet(0, 0, 1);
        narrow.item(0, 0, 0, 3);
        due("one letter, one item", narrow.laws(0, 0, 0, 4), 0);
        due("one letter, no item", narrow.laws(0, 0, 1, 4), WordLaws.INDEX);
        due("aaa", narrow.normal(3), 1);
        due("aaaa", narrow.normal(4), 0);
    }
}
