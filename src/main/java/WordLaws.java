import java.util.Arrays;

/**
 * Words that keep their places, laws among them, and what follows from the laws, length by length.
 * Every row is made in the constructors and used again, so that no call makes an object.
 */
public final class WordLaws {
    public static final int BAD = -1, NOT = -2, FULL = -3, NONE = -4, NULL = -11, CAST = -12, INDEX = -13, SIZE = -14;

    private static final int FAULT = -20;
    private static final int NO_FAULT = -1;

    private static final int FIRST_LETTERS = 2;
    private static final int FIRST_PRIME = 7;
    private static final int MOST_LETTERS = 3;
    private static final int MOST_PRIME = 97;
    private static final int[] LONGEST_BY_LETTERS = {0, 8, 7, 5};

    /** Lengths 0 .. 8 are looked at for one letter; the other sizes are greatest for three letters. */
    private static final int LENGTHS = 9;
    private static final int MOST_WORDS = 243;
    private static final int ALL_WORDS = 364;
    private static final int ALL_FORMS = 33397;
    private static final int MOST_UNKNOWNS = 81;

    private static final int MOST_LAWS = 8;
    /** The other algebra may have as many laws as there are words of length 2. */
    private static final int LAW_ROOM = 9;
    private static final int LAW_WORDS = 81;
    private static final int SHORTEST_LAW = 2;
    private static final int LONGEST_LAW = 4;

    private static final int TAPE_BYTES = 80;
    private static final int MOST_NUMBER = 999;
    private static final int SHEETS = 4;
    private static final int LANES = 3;
    private static final int MOST_ITEMS = 90;

    private final Alphabet alphabet;
    private final Tape tape;
    private final Reader reader;
    private final Sum lookedAt;
    private final Sum spare;
    private final LawList lawList;
    private final LawList otherList;
    private final Algebra algebra;
    private final Algebra otherAlgebra;
    private final Echelon echelon;
    private final Sheet[] sheets;
    private boolean otherIsStale;

    public WordLaws() {
        alphabet = new Alphabet();
        tape = new Tape();
        reader = new Reader(alphabet);
        lookedAt = new Sum(alphabet);
        spare = new Sum(alphabet);
        lawList = new LawList();
        otherList = new LawList();
        algebra = new Algebra(alphabet, lawList);
        otherAlgebra = new Algebra(alphabet, otherList);
        echelon = new Echelon(alphabet);
        sheets = new Sheet[SHEETS];
        for (int i = 0; i < SHEETS; i++) {
            sheets[i] = new Sheet();
        }
        otherIsStale = true;
    }

    // ---- 1 laws

    public int begin(int n, int p) {
        if (n < 1 || n > MOST_LETTERS || !isPrime(p)) {
            return BAD;
        }
        alphabet.choose(n, p);
        lawList.clear();
        lookedAt.clear();
        forgetFrom(0);
        return alphabet.longest();
    }

    public int type(long w, int n) {
        if (n < 1 || n > 8) {
            return BAD;
        }
        for (int i = 0; i < n; i++) {
            int c = byteOf(w, i);
            if (c < 32 || c > 126) {
                return BAD;
            }
        }
        if (tape.size() + n > TAPE_BYTES) {
            return FULL;
        }
        for (int i = n - 1; i >= 0; i--) {
            tape.add(byteOf(w, i));
        }
        return tape.size();
    }

    public int law() {
        int fault = readTape();
        if (fault != 0) {
            return fault;
        }
        int length = spare.onlyLength();
        if (!isLawLength(length)) {
            return NOT;
        }
        if (lawList.size() >= MOST_LAWS) {
            return FULL;
        }
        return addLaw(length);
    }

    public int unlaw() {
        int latest = lawList.size() - 1;
        if (latest < 0) {
            return NOT;
        }
        int length = lawList.lengthOf(latest);
        lawList.removeLatest();
        forgetFrom(length);
        return latest;
    }

    public int told(int law, int word) {
        if (law < 0 || law >= lawList.size()) {
            return BAD;
        }
        int length = lawList.lengthOf(law);
        if (word == -1) {
            return length;
        }
        return alphabet.hasWord(length, word) ? lawList.numberOf(law, word) : BAD;
    }

    public int count(int what) {
        switch (what) {
            case 0:
                return alphabet.letters();
            case 1:
                return alphabet.prime();
            case 2:
                return alphabet.longest();
            case 3:
                return lawList.size();
            case 4:
                return countLeastLaws();
            case 5:
                return lookedAt.terms();
            default:
                return BAD;
        }
    }

    // ---- 2 lengths

    public int normal(int d) {
        return alphabet.hasLength(d) ? algebra.normalsOf(d) : BAD;
    }

    public int leads(int d, int word) {
        if (!alphabet.hasWord(d, word)) {
            return BAD;
        }
        return algebra.isLeading(d, word) ? 1 : 0;
    }

    public int word(int d, int i) {
        if (!alphabet.hasLength(d) || i < 0 || i >= algebra.normalsOf(d)) {
            return BAD;
        }
        return algebra.normalWord(d, i);
    }

    public int plain(int d, int word, int other) {
        if (!alphabet.hasWord(d, word) || !alphabet.hasWord(d, other)) {
            return BAD;
        }
        return algebra.numberInForm(d, word, other);
    }

    public int least(int i, int what) {
        if (i < 0 || what < 0 || what > 2) {
            return BAD;
        }
        int left = i;
        for (int d = 0; d <= alphabet.longest(); d++) {
            int here = algebra.leastLawsOf(d);
            if (left < here) {
                return tellLeast(d, algebra.leastWord(d, left), what);
            }
            left -= here;
        }
        return BAD;
    }

    public int product(int d, int i, int e, int j, int word) {
        if (!alphabet.hasLength(d) || !alphabet.hasLength(e) || !alphabet.hasWord(d + e, word)) {
            return BAD;
        }
        if (i < 0 || i >= algebra.normalsOf(d) || j < 0 || j >= algebra.normalsOf(e)) {
            return BAD;
        }
        int both = alphabet.join(algebra.normalWord(d, i), e, algebra.normalWord(e, j));
        return algebra.numberInForm(d + e, word, both);
    }

    public int middle(int d) {
        return alphabet.hasLength(d) && d < alphabet.longest() ? algebra.middleOf(d, echelon) : BAD;
    }

    public int other(int d) {
        if (!alphabet.hasLength(d)) {
            return BAD;
        }
        if (!lawList.allHaveLength(2)) {
            return NOT;
        }
        renewOther();
        return otherAlgebra.normalsOf(d);
    }

    public int fit() {
        if (!lawList.allHaveLength(2)) {
            return NOT;
        }
        renewOther();
        for (int d = 1; d <= alphabet.longest(); d++) {
            if (seriesAt(d) != 0) {
                return d;
            }
        }
        return NONE;
    }

    // ---- 3 sums

    public int sum() {
        int fault = readTape();
        if (fault != 0) {
            return fault;
        }
        lookedAt.copy(spare);
        return lookedAt.terms();
    }

    public int part(int d, int word) {
        return alphabet.hasWord(d, word) ? lookedAt.numberOf(d, word) : BAD;
    }

    public int reduce() {
        spare.clear();
        for (int d = 0; d <= alphabet.longest(); d++) {
            for (int w = 0; w < alphabet.words(d); w++) {
                int number = lookedAt.numberOf(d, w);
                if (number != 0) {
                    algebra.addForm(d, w, number, spare);
                }
            }
        }
        lookedAt.copy(spare);
        return lookedAt.terms();
    }

    public int put(int which, int letter) {
        if (which < 0 || which > 1 || letter < 0 || letter >= alphabet.letters()) {
            return BAD;
        }
        if (lookedAt.hasTermsOf(alphabet.longest())) {
            return FULL;
        }
        spare.clear();
        for (int d = 0; d < alphabet.longest(); d++) {
            for (int w = 0; w < alphabet.words(d); w++) {
                int longer = which == 0 ? alphabet.ahead(letter, d, w) : alphabet.behind(w, letter);
                spare.add(d + 1, longer, lookedAt.numberOf(d, w));
            }
        }
        lookedAt.copy(spare);
        return lookedAt.terms();
    }

    public int times(int v) {
        if (v < 0 || v > MOST_NUMBER) {
            return BAD;
        }
        lookedAt.multiply(v);
        return lookedAt.terms();
    }

    // ---- 4 sheets

    public int sheet(int sheet, int lane, int n) {
        if (!isSheet(sheet) || !isLane(lane) || n > MOST_ITEMS) {
            return BAD;
        }
        if (n < 0) {
            return SIZE;
        }
        sheets[sheet].hold(lane, n);
        return n;
    }

    public int drop(int sheet) {
        if (!isSheet(sheet)) {
            return BAD;
        }
        if (sheets[sheet].isMissing()) {
            return NULL;
        }
        return sheets[sheet].release();
    }

    public int item(int sheet, int lane, int i, int v) {
        if (!isSheet(sheet) || !isLane(lane)) {
            return BAD;
        }
        int refusal = refuseRow(sheets[sheet], lane, i, 1);
        if (refusal != 0) {
            return refusal;
        }
        sheets[sheet].set(i, v);
        return 1;
    }

    public int laws(int sheet, int lane, int from, int d) {
        if (!isSheet(sheet) || !isLane(lane) || !isLawLength(d)) {
            return BAD;
        }
        int words = alphabet.words(d);
        int refusal = refuseRow(sheets[sheet], lane, from, words);
        if (refusal != 0) {
            return refusal;
        }
        readRow(sheets[sheet], from, d);
        if (!spare.hasTermsOf(d)) {
            return NOT;
        }
        if (lawList.size() >= MOST_LAWS) {
            return FULL;
        }
        return addLaw(d);
    }

    // ---- what the calls share

    private static boolean isPrime(int p) {
        if (p < 2 || p > MOST_PRIME) {
            return false;
        }
        for (int i = 2; i * i <= p; i++) {
            if (p % i == 0) {
                return false;
            }
        }
        return true;
    }

    private static int byteOf(long w, int i) {
        return (int) (w >>> (8 * i)) & 255;
    }

    private static boolean isLawLength(int d) {
        return d >= SHORTEST_LAW && d <= LONGEST_LAW;
    }

    private static boolean isSheet(int sheet) {
        return sheet >= 0 && sheet < SHEETS;
    }

    private static boolean isLane(int lane) {
        return lane >= 0 && lane < LANES;
    }

    /** A law tells nothing of shorter words, so what is known of these stays. */
    private void forgetFrom(int d) {
        algebra.forgetFrom(d);
        otherIsStale = true;
    }

    /** The tape is empty behind every reading, also behind one that is refused. */
    private int readTape() {
        int fault = reader.read(tape, spare);
        tape.clear();
        return fault;
    }

    private int addLaw(int d) {
        lawList.open(d);
        for (int w = 0; w < alphabet.words(d); w++) {
            lawList.set(w, spare.numberOf(d, w));
        }
        forgetFrom(d);
        return lawList.size() - 1;
    }

    private static int refuseRow(Sheet row, int lane, int from, int n) {
        if (row.isMissing()) {
            return NULL;
        }
        if (!row.isOf(lane)) {
            return CAST;
        }
        return row.has(from, n) ? 0 : INDEX;
    }

    private void readRow(Sheet row, int from, int d) {
        spare.clear();
        for (int w = 0; w < alphabet.words(d); w++) {
            spare.add(d, w, row.at(from + w));
        }
    }

    private int countLeastLaws() {
        int laws = 0;
        for (int d = 0; d <= alphabet.longest(); d++) {
            laws += algebra.leastLawsOf(d);
        }
        return laws;
    }

    private int tellLeast(int d, int lead, int what) {
        if (what == 0) {
            return d;
        }
        return what == 1 ? lead : 1 + algebra.termsInForm(d, lead);
    }

    /**
     * A sum of the other algebra's laws has the sum 0 with each word less its plain form. So its numbers
     * of normal words are free, and bind the others: there is one law for each normal word v, with the
     * number of v in the plain form of each word.
     */
    private void renewOther() {
        if (!otherIsStale) {
            return;
        }
        otherList.clear();
        for (int i = 0; i < algebra.normalsOf(2); i++) {
            int v = algebra.normalWord(2, i);
            otherList.open(2);
            for (int w = 0; w < alphabet.words(2); w++) {
                otherList.set(w, algebra.numberInForm(2, v, w));
            }
        }
        otherAlgebra.forgetFrom(0);
        otherIsStale = false;
    }

    private int seriesAt(int d) {
        int total = 0;
        for (int i = 0; i <= d; i++) {
            int both = algebra.normalsOf(d - i) * otherAlgebra.normalsOf(i);
            total += i % 2 == 0 ? both : -both;
        }
        return total;
    }

    /** The letters, the prime, and how words of each length are numbered. */
    private static final class Alphabet {
        private final int[] words = new int[LENGTHS];
        private final int[] wordStarts = new int[LENGTHS];
        private final int[] formStarts = new int[LENGTHS];
        private int letters;
        private int prime;
        private int longest;

        Alphabet() {
            choose(FIRST_LETTERS, FIRST_PRIME);
        }

        void choose(int n, int p) {
            letters = n;
            prime = p;
            longest = LONGEST_BY_LETTERS[n];
            int many = 1;
            int wordStart = 0;
            int formStart = 0;
            for (int d = 0; d <= longest; d++) {
                words[d] = many;
                wordStarts[d] = wordStart;
                formStarts[d] = formStart;
                wordStart += many;
                formStart += many * (many + 1) / 2;
                many *= n;
            }
        }

        int letters() {
            return letters;
        }

        int prime() {
            return prime;
        }

        int longest() {
            return longest;
        }

        int words(int d) {
            return words[d];
        }

        boolean hasLength(int d) {
            return d >= 0 && d <= longest;
        }

        boolean hasWord(int d, int word) {
            return hasLength(d) && word >= 0 && word < words[d];
        }

        /** The place of a word among the words of all lengths. */
        int placeOf(int d, int word) {
            return wordStarts[d] + word;
        }

        /** A form holds no word above its own, so the forms of a length stand as a triangle. */
        int formAt(int d, int word) {
            return formStarts[d] + word * (word + 1) / 2;
        }

        int ahead(int letter, int d, int word) {
            return letter * words[d] + word;
        }

        int behind(int word, int letter) {
            return word * letters + letter;
        }

        int join(int first, int d, int second) {
            return first * words[d] + second;
        }

        int firstLetter(int d, int word) {
            int shorter = d > 0 ? words[d - 1] : 0;
            return shorter > 0 ? word / shorter : 0;
        }

        int withoutLast(int word) {
            return letters > 0 ? word / letters : 0;
        }

        int withoutFirst(int d, int word) {
            return d > 0 ? word - firstLetter(d, word) * words[d - 1] : 0;
        }

        int lastLetter(int word) {
            return word - withoutLast(word) * letters;
        }

        int rest(long v) {
            if (prime < 2) {
                return 0;
            }
            int rest = (int) (v % prime);
            return rest < 0 ? rest + prime : rest;
        }

        int inverse(int v) {
            for (int i = 1; i < prime; i++) {
                if (rest((long) v * i) == 1) {
                    return i;
                }
            }
            return 0;
        }
    }

    private static final class Tape {
        private final int[] bytes = new int[TAPE_BYTES];
        private int size;

        int size() {
            return size;
        }

        int at(int i) {
            return i >= 0 && i < size ? bytes[i] : 0;
        }

        void add(int c) {
            if (size < TAPE_BYTES) {
                bytes[size] = c;
                size++;
            }
        }

        void clear() {
            size = 0;
        }
    }

    /** A number for each word of each length. */
    private static final class Sum {
        private final Alphabet alphabet;
        private final int[] numbers = new int[ALL_WORDS];

        Sum(Alphabet alphabet) {
            this.alphabet = alphabet;
        }

        void clear() {
            Arrays.fill(numbers, 0);
        }

        void copy(Sum from) {
            System.arraycopy(from.numbers, 0, numbers, 0, ALL_WORDS);
        }

        int numberOf(int d, int word) {
            return numbers[alphabet.placeOf(d, word)];
        }

        void add(int d, int word, long v) {
            int place = alphabet.placeOf(d, word);
            numbers[place] = alphabet.rest(numbers[place] + v);
        }

        void multiply(int v) {
            for (int i = 0; i < ALL_WORDS; i++) {
                numbers[i] = alphabet.rest((long) numbers[i] * v);
            }
        }

        int terms() {
            int terms = 0;
            for (int i = 0; i < ALL_WORDS; i++) {
                if (numbers[i] != 0) {
                    terms++;
                }
            }
            return terms;
        }

        boolean hasTermsOf(int d) {
            for (int w = 0; w < alphabet.words(d); w++) {
                if (numberOf(d, w) != 0) {
                    return true;
                }
            }
            return false;
        }

        /** The length of all terms; -1 if there are none, or they differ in length. */
        int onlyLength() {
            int only = -1;
            for (int d = 0; d <= alphabet.longest(); d++) {
                if (hasTermsOf(d)) {
                    if (only >= 0) {
                        return -1;
                    }
                    only = d;
                }
            }
            return only;
        }
    }

    /** Reads a text byte by byte; what may stand next hangs on the state alone. */
    private static final class Reader {
        private static final int AT_START = 0;
        private static final int BEHIND_SIGN = 1;
        private static final int IN_NUMBER = 2;
        private static final int BEHIND_NUMBER = 3;
        private static final int IN_LETTERS = 4;

        private final Alphabet alphabet;
        private int state;
        private int sign;
        private int number;
        private int numberPlace;
        private int length;
        private int letters;

        Reader(Alphabet alphabet) {
            this.alphabet = alphabet;
        }

        /** Answers 0, or a fault; behind a fault the target is not to be used. */
        int read(Tape tape, Sum target) {
            target.clear();
            openTerm(AT_START, 1);
            for (int i = 0; i < tape.size(); i++) {
                int fault = takeByte(tape.at(i), i, target);
                if (fault != NO_FAULT) {
                    return FAULT - fault;
                }
            }
            if (needsTerm()) {
                return FAULT - tape.size();
            }
            closeTerm(target);
            return 0;
        }

        private boolean needsTerm() {
            return state == AT_START || state == BEHIND_SIGN;
        }

        private void openTerm(int newState, int newSign) {
            state = newState;
            sign = newSign;
            number = 1;
            length = 0;
            letters = 0;
        }

        private void closeTerm(Sum target) {
            target.add(length, letters, sign * number);
        }

        private int takeByte(int c, int place, Sum target) {
            if (c == ' ') {
                if (state == IN_NUMBER) {
                    state = BEHIND_NUMBER;
                }
                return NO_FAULT;
            }
            if (c >= '0' && c <= '9') {
                return takeDigit(c - '0', place);
            }
            if (c == '+' || c == '-') {
                return takeSign(c == '-' ? -1 : 1, place, target);
            }
            return takeLetter(c - 'a', place);
        }

        private int takeDigit(int digit, int place) {
            if (needsTerm()) {
                number = digit;
                numberPlace = place;
                state = IN_NUMBER;
                return NO_FAULT;
            }
            if (state != IN_NUMBER) {
                return place;
            }
            number = number * 10 + digit;
            return number > MOST_NUMBER ? numberPlace : NO_FAULT;
        }

        private int takeSign(int newSign, int place, Sum target) {
            if (state == BEHIND_SIGN || (state == AT_START && newSign > 0)) {
                return place;
            }
            if (state != AT_START) {
                closeTerm(target);
            }
            openTerm(BEHIND_SIGN, newSign);
            return NO_FAULT;
        }

        private int takeLetter(int letter, int place) {
            if (letter < 0 || letter >= alphabet.letters() || length >= alphabet.longest()) {
                return place;
            }
            letters = alphabet.behind(letters, letter);
            length++;
            state = IN_LETTERS;
            return NO_FAULT;
        }
    }

    private static final class LawList {
        private final int[] lengths = new int[LAW_ROOM];
        private final int[] numbers = new int[LAW_ROOM * LAW_WORDS];
        private int size;

        int size() {
            return size;
        }

        void clear() {
            size = 0;
        }

        /** The caller then sets a number for every word of the length. */
        void open(int length) {
            if (size < LAW_ROOM) {
                lengths[size] = length;
                size++;
            }
        }

        void set(int word, int number) {
            if (size > 0 && word >= 0 && word < LAW_WORDS) {
                numbers[(size - 1) * LAW_WORDS + word] = number;
            }
        }

        void removeLatest() {
            if (size > 0) {
                size--;
            }
        }

        int lengthOf(int i) {
            return lengths[i];
        }

        int numberOf(int i, int word) {
            return numbers[i * LAW_WORDS + word];
        }

        boolean allHaveLength(int d) {
            for (int i = 0; i < size; i++) {
                if (lengths[i] != d) {
                    return false;
                }
            }
            return true;
        }
    }

    /** What follows from a list of laws; each length is worked out when it is first asked for. */
    private static final class Algebra {
        private static final int UNKNOWN = -1;

        private final Alphabet alphabet;
        private final LawList lawList;
        /** Plain forms of the words that lead alone: a normal word is its own. */
        private final int[] forms = new int[ALL_FORMS];
        private final boolean[] leading = new boolean[ALL_WORDS];
        private final int[] normals = new int[LENGTHS];
        private final int[] leasts = new int[LENGTHS];
        private final int[] middles = new int[LENGTHS];
        private final int[] form = new int[MOST_WORDS];
        private int ready = -1;

        Algebra(Alphabet alphabet, LawList lawList) {
            this.alphabet = alphabet;
            this.lawList = lawList;
        }

        void forgetFrom(int d) {
            ready = Math.min(ready, d - 1);
        }

        int normalsOf(int d) {
            prepare(d);
            return normals[d];
        }

        int leastLawsOf(int d) {
            prepare(d);
            return leasts[d];
        }

        boolean isLeading(int d, int word) {
            prepare(d);
            return leading[alphabet.placeOf(d, word)];
        }

        /** The i-th normal word, -1 if there are not so many. */
        int normalWord(int d, int i) {
            prepare(d);
            int left = i;
            for (int w = 0; w < alphabet.words(d); w++) {
                if (!leading[alphabet.placeOf(d, w)]) {
                    if (left == 0) {
                        return w;
                    }
                    left--;
                }
            }
            return -1;
        }

        /** The word that leads the i-th least law of a length, -1 if there are not so many. */
        int leastWord(int d, int i) {
            prepare(d);
            int left = i;
            for (int w = 0; w < alphabet.words(d); w++) {
                if (isLeast(d, w)) {
                    if (left == 0) {
                        return w;
                    }
                    left--;
                }
            }
            return -1;
        }

        int numberInForm(int d, int word, int of) {
            prepare(d);
            return numberAt(d, word, of);
        }

        int termsInForm(int d, int of) {
            prepare(d);
            int terms = 0;
            for (int v = 0; v <= of; v++) {
                if (numberAt(d, v, of) != 0) {
                    terms++;
                }
            }
            return terms;
        }

        void addForm(int d, int of, int factor, Sum target) {
            prepare(d);
            for (int v = 0; v <= of; v++) {
                target.add(d, v, (long) factor * numberAt(d, v, of));
            }
        }

        /** A sum of the middle is a solution of equations, one for each letter and longer normal word. */
        int middleOf(int d, Echelon echelon) {
            prepare(d + 1);
            if (middles[d] == UNKNOWN) {
                echelon.open(normals[d]);
                for (int x = 0; x < alphabet.letters(); x++) {
                    for (int t = 0; t < alphabet.words(d + 1) && echelon.rank() < normals[d]; t++) {
                        addEquation(d, x, t, echelon);
                    }
                }
                middles[d] = normals[d] - echelon.rank();
            }
            return middles[d];
        }

        private void addEquation(int d, int x, int t, Echelon echelon) {
            if (leading[alphabet.placeOf(d + 1, t)]) {
                return;
            }
            int unknown = 0;
            for (int w = 0; w < alphabet.words(d); w++) {
                if (!leading[alphabet.placeOf(d, w)]) {
                    int ahead = numberAt(d + 1, t, alphabet.ahead(x, d, w));
                    int behind = numberAt(d + 1, t, alphabet.behind(w, x));
                    echelon.set(unknown, ahead - behind);
                    unknown++;
                }
            }
            echelon.take();
        }

        private int numberAt(int d, int word, int of) {
            if (!leading[alphabet.placeOf(d, of)]) {
                return word == of ? 1 : 0;
            }
            return word <= of ? forms[alphabet.formAt(d, of) + word] : 0;
        }

        private boolean isLeast(int d, int w) {
            return d > 0 && leading[alphabet.placeOf(d, w)]
                    && !leading[alphabet.placeOf(d - 1, alphabet.withoutFirst(d, w))]
                    && !leading[alphabet.placeOf(d - 1, alphabet.withoutLast(w))];
        }

        private void prepare(int upTo) {
            for (int d = ready + 1; d <= upTo; d++) {
                for (int w = 0; w < alphabet.words(d); w++) {
                    followShorter(d, w);
                }
                for (int i = 0; i < lawList.size(); i++) {
                    takeLaw(d, i);
                }
                settle(d);
                ready = d;
            }
        }

        /**
         * Words come rising, so all that a word's form is made of is known. What is nought of the
         * length before, with a letter ahead or behind, gives all that is nought here but for the
         * laws of this length; where both sides give a form of one word, their difference is nought.
         */
        private void followShorter(int d, int w) {
            boolean byTail = d > 0 && leading[alphabet.placeOf(d - 1, alphabet.withoutFirst(d, w))];
            boolean byHead = d > 0 && leading[alphabet.placeOf(d - 1, alphabet.withoutLast(w))];
            leading[alphabet.placeOf(d, w)] = byTail || byHead;
            if (!byTail && !byHead) {
                return;
            }
            clearForm(w + 1);
            if (byTail) {
                addTailForm(d, w);
            } else {
                addHeadForm(d, w, 1);
            }
            System.arraycopy(form, 0, forms, alphabet.formAt(d, w), w + 1);
            if (byTail && byHead) {
                addHeadForm(d, w, alphabet.prime() - 1);
                takeNought(d, w + 1);
            }
        }

        private void clearForm(int words) {
            for (int v = 0; v < words; v++) {
                form[v] = 0;
            }
        }

        private void addTailForm(int d, int w) {
            int tail = alphabet.withoutFirst(d, w);
            int letter = alphabet.firstLetter(d, w);
            int from = alphabet.formAt(d - 1, tail);
            for (int v = 0; v < tail; v++) {
                if (forms[from + v] != 0) {
                    addRow(d, alphabet.ahead(letter, d - 1, v), forms[from + v]);
                }
            }
        }

        private void addHeadForm(int d, int w, int factor) {
            int head = alphabet.withoutLast(w);
            int letter = alphabet.lastLetter(w);
            int from = alphabet.formAt(d - 1, head);
            for (int v = 0; v < head; v++) {
                if (forms[from + v] != 0) {
                    addRow(d, alphabet.behind(v, letter), forms[from + v] * factor);
                }
            }
        }

        /** All numbers are below 97, so the products here are far from wrapping around. */
        private void addRow(int d, int w, int factor) {
            int p = alphabet.prime();
            if (p < 2) {
                return;
            }
            if (!leading[alphabet.placeOf(d, w)]) {
                form[w] = (form[w] + factor) % p;
                return;
            }
            int from = alphabet.formAt(d, w);
            for (int v = 0; v < w; v++) {
                int number = forms[from + v];
                if (number != 0) {
                    form[v] = (form[v] + factor * number) % p;
                }
            }
        }

        private void takeLaw(int d, int i) {
            if (lawList.lengthOf(i) != d) {
                return;
            }
            int words = alphabet.words(d);
            clearForm(words);
            for (int w = 0; w < words; w++) {
                if (lawList.numberOf(i, w) != 0) {
                    addRow(d, w, lawList.numberOf(i, w));
                }
            }
            takeNought(d, words);
        }

        /** What stands in the form is nought: its greatest word leads, and goes out of all forms below upTo. */
        private void takeNought(int d, int upTo) {
            int lead = upTo - 1;
            while (lead >= 0 && form[lead] == 0) {
                lead--;
            }
            if (lead < 0) {
                return;
            }
            int factor = alphabet.prime() - alphabet.inverse(form[lead]);
            form[lead] = 0;
            for (int v = 0; v < lead; v++) {
                form[v] = alphabet.rest((long) form[v] * factor);
            }
            System.arraycopy(form, 0, forms, alphabet.formAt(d, lead), lead + 1);
            leading[alphabet.placeOf(d, lead)] = true;
            for (int w = lead + 1; w < upTo; w++) {
                replaceLead(d, w, lead);
            }
        }

        private void replaceLead(int d, int w, int lead) {
            if (!leading[alphabet.placeOf(d, w)]) {
                return;
            }
            int to = alphabet.formAt(d, w);
            int number = forms[to + lead];
            if (number == 0) {
                return;
            }
            forms[to + lead] = 0;
            for (int v = 0; v < lead; v++) {
                if (form[v] != 0) {
                    forms[to + v] = alphabet.rest(forms[to + v] + (long) number * form[v]);
                }
            }
        }

        private void settle(int d) {
            normals[d] = 0;
            leasts[d] = 0;
            for (int w = 0; w < alphabet.words(d); w++) {
                if (!leading[alphabet.placeOf(d, w)]) {
                    normals[d]++;
                } else if (isLeast(d, w)) {
                    leasts[d]++;
                }
            }
            if (d > 0) {
                middles[d - 1] = UNKNOWN;
            }
        }
    }

    /** Equations come one by one; those that follow from earlier ones add nothing to the rank. */
    private static final class Echelon {
        private final Alphabet alphabet;
        private final int[] rows = new int[MOST_UNKNOWNS * MOST_UNKNOWNS];
        private final boolean[] taken = new boolean[MOST_UNKNOWNS];
        private final int[] equation = new int[MOST_UNKNOWNS];
        private int unknowns;
        private int rank;

        Echelon(Alphabet alphabet) {
            this.alphabet = alphabet;
        }

        void open(int many) {
            unknowns = Math.max(0, Math.min(many, MOST_UNKNOWNS));
            rank = 0;
            for (int i = 0; i < unknowns; i++) {
                taken[i] = false;
            }
        }

        int rank() {
            return rank;
        }

        void set(int unknown, int number) {
            if (unknown >= 0 && unknown < unknowns) {
                equation[unknown] = alphabet.rest(number);
            }
        }

        void take() {
            for (int i = 0; i < unknowns; i++) {
                if (equation[i] != 0) {
                    if (!taken[i]) {
                        keep(i);
                        return;
                    }
                    subtractRow(i);
                }
            }
        }

        private void keep(int i) {
            int factor = alphabet.inverse(equation[i]);
            for (int j = i; j < unknowns; j++) {
                rows[i * MOST_UNKNOWNS + j] = alphabet.rest((long) equation[j] * factor);
            }
            taken[i] = true;
            rank++;
        }

        private void subtractRow(int i) {
            int factor = equation[i];
            for (int j = i; j < unknowns; j++) {
                equation[j] = alphabet.rest(equation[j] - (long) factor * rows[i * MOST_UNKNOWNS + j]);
            }
        }
    }

    /** Holds a row of a lane, or nothing; the row's room is made once. */
    private static final class Sheet {
        private static final int NOTHING = -1;
        private static final int BYTES = 0;

        private final long[] items = new long[MOST_ITEMS];
        private int lane = NOTHING;
        private int size;

        boolean isMissing() {
            return lane == NOTHING;
        }

        boolean isOf(int otherLane) {
            return lane == otherLane;
        }

        /** Without from + n, which could wrap around. */
        boolean has(int from, int n) {
            return from >= 0 && from <= size && n <= size - from;
        }

        void hold(int newLane, int n) {
            Arrays.fill(items, 0L);
            lane = newLane;
            size = n;
        }

        int release() {
            lane = NOTHING;
            return size;
        }

        void set(int i, int v) {
            if (has(i, 1)) {
                items[i] = lane == BYTES ? (byte) v : v;
            }
        }

        long at(int i) {
            return has(i, 1) ? items[i] : 0L;
        }
    }
}
