import java.math.BigInteger;
import java.util.ArrayList;
import java.util.Arrays;
import java.util.List;
import java.util.Map;
import java.util.Random;
import java.util.TreeMap;

/** Compares WordLaws with a slow model that follows the document's words, over runs by a fixed seed. */
public final class ModelTest {
    private static final int RUNS = 900;
    private static int wrong = 0;

    public static void main(String[] args) {
        for (int run = 0; run < RUNS && wrong < 20; run++) {
            new Run(run).play();
        }
        System.out.println(wrong == 0 ? "all answers are the model's" : wrong + " answers are not the model's");
        if (wrong != 0) {
            System.exit(1);
        }
    }

    /** One object and one model, with the calls that were made so far. */
    private static final class Run {
        final int number;
        final Random random;
        final WordLaws real = new WordLaws();
        final Model model = new Model();
        final StringBuilder story = new StringBuilder();
        int calls = 0;

        Run(int number) {
            this.number = number;
            this.random = new Random(7919L * number + 17);
        }

        void play() {
            int length = 60 + random.nextInt(250);
            int style = random.nextInt(6);
            if (random.nextInt(4) != 0) {
                int n = new int[] {1, 2, 2, 2, 3, 3}[random.nextInt(6)];
                int p = new int[] {2, 3, 5, 7, 11, 31, 89, 97}[random.nextInt(8)];
                begin(n, p);
            }
            while (calls < length && wrong < 20) {
                step(style);
            }
            sweep();
        }

        /** Whole forms, for a word that leads and for the sum, as far as the 512 calls go. */
        void sweep() {
            int d = any(2, model.longest());
            int of = any(0, model.words(d) - 1);
            for (int i = 0; i < 20 && model.leads(d, of) == 0; i++) {
                of = any(0, model.words(d) - 1);
            }
            for (int w = 0; w < model.words(d) && calls < 400; w++) {
                due("plain(" + d + ", " + w + ", " + of + ")", real.plain(d, w, of), model.plain(d, w, of));
            }
            due("reduce()", real.reduce(), model.reduce());
            for (int w = 0; w < model.words(d) && calls < 512; w++) {
                due("part(" + d + ", " + w + ")", real.part(d, w), model.part(d, w));
            }
        }

        void begin(int n, int p) {
            due("begin(" + n + ", " + p + ")", real.begin(n, p), model.begin(n, p));
        }

        void due(String call, int got, int want) {
            calls++;
            story.append(call).append(" = ").append(want).append("; ");
            if (got != want) {
                wrong++;
                String all = story.toString();
                System.out.println("run " + number + ": " + call + " answered " + got + ", due is " + want
                        + ", behind: " + all.substring(Math.max(0, all.length() - 1500)));
            }
        }

        int any(int from, int to) {
            return from + random.nextInt(to - from + 1);
        }

        /** Mostly a number within the bounds, at times one just outside, or a far one. */
        int near(int from, int to) {
            int kind = random.nextInt(30);
            if (kind == 0) {
                return from - 1;
            }
            if (kind == 1) {
                return to + 1;
            }
            if (kind == 2) {
                return new int[] {Integer.MIN_VALUE, Integer.MAX_VALUE, -2, 1000, 65536, -100}[random.nextInt(6)];
            }
            return any(from, Math.max(from, to));
        }

        int lengthNear() {
            return near(0, model.longest());
        }

        int wordNear(int d) {
            return near(0, model.words(Math.max(0, Math.min(d, model.longest()))) - 1);
        }

        int normalNear(int d) {
            int n = model.normal(d);
            return near(0, n < 1 ? 0 : n - 1);
        }

        void type(String text) {
            for (int i = 0; i < text.length(); i += 8) {
                String piece = text.substring(i, Math.min(text.length(), i + 8));
                long w = random.nextInt(3) == 0 ? random.nextLong() : 0L;
                for (int k = 0; k < piece.length(); k++) {
                    w = w << 8 | piece.charAt(k) & 255;
                }
                due("type('" + piece + "')", real.type(w, piece.length()), model.type(piece));
            }
        }

        String randomWord(int length) {
            StringBuilder s = new StringBuilder();
            for (int i = 0; i < length; i++) {
                s.append((char) ('a' + random.nextInt(model.n)));
            }
            return s.toString();
        }

        String lawText(int style) {
            int d = style < 3 ? 2 : any(2, 4);
            int terms = style == 1 ? any(1, 2) : any(1, 7);
            StringBuilder s = new StringBuilder();
            for (int i = 0; i < terms; i++) {
                String sign = random.nextBoolean() ? "-" : i == 0 ? "" : "+";
                String number = random.nextInt(3) == 0 ? String.valueOf(random.nextInt(100)) : "";
                s.append(sign).append(number).append(randomWord(random.nextInt(25) == 0 ? any(0, 5) : d));
                if (random.nextInt(12) == 0) {
                    s.append(' ');
                }
            }
            return s.length() == 0 ? "a" : s.toString();
        }

        String wildText() {
            String from = new String[] {"ab+- 0123c", "aabbb-+9 1d~c", "0000123", "ab  01"}[random.nextInt(4)];
            int length = any(1, random.nextInt(5) == 0 ? 80 : 12);
            StringBuilder s = new StringBuilder();
            for (int i = 0; i < length; i++) {
                s.append(from.charAt(random.nextInt(from.length())));
            }
            return s.toString();
        }

        String sumText() {
            StringBuilder s = new StringBuilder();
            int terms = any(1, 8);
            for (int i = 0; i < terms; i++) {
                s.append(i > 0 ? random.nextBoolean() ? "+" : "-" : "");
                if (random.nextInt(2) == 0) {
                    s.append(random.nextInt(random.nextInt(20) == 0 ? 1100 : 1000));
                }
                s.append(randomWord(any(1, model.longest())));
            }
            return s.toString();
        }

        void step(int style) {
            int kind = random.nextInt(100);
            if (kind < 9) {
                if (model.laws.size() < 3 || random.nextInt(6) == 0) {
                    type(lawText(style));
                    due("law()", real.law(), model.law());
                }
            } else if (kind < 12) {
                if (random.nextInt(2) == 0) {
                    due("unlaw()", real.unlaw(), model.unlaw());
                }
            } else if (kind < 20) {
                type(random.nextInt(3) == 0 ? wildText() : sumText());
                if (random.nextInt(12) == 0) {
                    return;
                }
                if (random.nextInt(6) == 0) {
                    due("law()", real.law(), model.law());
                } else {
                    due("sum()", real.sum(), model.sum());
                }
            } else if (kind < 35) {
                stepSum();
            } else if (kind < 50) {
                stepSheet();
            } else {
                stepLength(kind);
            }
        }

        void stepSum() {
            int kind = random.nextInt(10);
            if (kind < 3) {
                due("reduce()", real.reduce(), model.reduce());
            } else if (kind < 5) {
                int which = near(0, 1);
                int letter = near(0, model.n - 1);
                due("put(" + which + ", " + letter + ")", real.put(which, letter), model.put(which, letter));
            } else if (kind < 6) {
                int v = near(0, random.nextBoolean() ? 999 : 12);
                due("times(" + v + ")", real.times(v), model.times(v));
            } else {
                int d = lengthNear();
                int word = wordNear(d);
                due("part(" + d + ", " + word + ")", real.part(d, word), model.part(d, word));
            }
        }

        void stepSheet() {
            int sheet = near(0, 3);
            int lane = near(0, 2);
            int kind = random.nextInt(12);
            if (sheet >= 0 && sheet < 4 && model.sheets[sheet] != null && random.nextInt(8) != 0) {
                lane = model.lanes[sheet];
            }
            int size = sheet >= 0 && sheet < 4 && model.sheets[sheet] != null ? model.sheets[sheet].length : 0;
            if (kind < 2) {
                int n = near(0, 90);
                due("sheet(" + sheet + ", " + lane + ", " + n + ")", real.sheet(sheet, lane, n), model.sheet(sheet, lane, n));
            } else if (kind < 3) {
                due("drop(" + sheet + ")", real.drop(sheet), model.drop(sheet));
            } else if (kind < 10) {
                int i = near(0, Math.min(size - 1, 9));
                int v = random.nextBoolean() ? random.nextInt() : any(-9, 9);
                due("item(" + sheet + ", " + lane + ", " + i + ", " + v + ")", real.item(sheet, lane, i, v), model.item(sheet, lane, i, v));
            } else {
                int d = near(2, 4);
                int from = near(0, 6);
                if (model.laws.size() < 4 || random.nextInt(5) == 0) {
                    due("laws(" + sheet + ", " + lane + ", " + from + ", " + d + ")", real.laws(sheet, lane, from, d), model.laws(sheet, lane, from, d));
                }
            }
        }

        void stepLength(int kind) {
            int d = lengthNear();
            int word = wordNear(d);
            if (kind < 52) {
                int law = near(0, model.laws.size() - 1);
                int of = law >= 0 && law < model.laws.size() ? near(-1, model.words(model.lawLengths.get(law)) - 1) : 0;
                due("told(" + law + ", " + of + ")", real.told(law, of), model.told(law, of));
            } else if (kind < 58) {
                int what = near(0, 5);
                due("count(" + what + ")", real.count(what), model.count(what));
            } else if (kind < 63) {
                due("normal(" + d + ")", real.normal(d), model.normal(d));
            } else if (kind < 68) {
                due("leads(" + d + ", " + word + ")", real.leads(d, word), model.leads(d, word));
            } else if (kind < 73) {
                int i = normalNear(d);
                due("word(" + d + ", " + i + ")", real.word(d, i), model.word(d, i));
            } else if (kind < 79) {
                int other = wordNear(d);
                due("plain(" + d + ", " + word + ", " + other + ")", real.plain(d, word, other), model.plain(d, word, other));
            } else if (kind < 84) {
                int i = near(0, model.count(4) - 1);
                int what = near(0, 2);
                due("least(" + i + ", " + what + ")", real.least(i, what), model.least(i, what));
            } else if (kind < 89) {
                stepProduct();
            } else if (kind < 93) {
                due("middle(" + d + ")", real.middle(d), model.middle(d));
            } else if (kind < 96) {
                due("other(" + d + ")", real.other(d), model.other(d));
            } else if (kind < 99) {
                due("fit()", real.fit(), model.fit());
            } else if (random.nextInt(6) == 0) {
                begin(near(1, 3), near(2, 97));
            }
        }

        void stepProduct() {
            int d = random.nextInt(8) == 0 ? lengthNear() : any(0, model.longest());
            int e = random.nextInt(8) == 0 ? lengthNear() : any(0, Math.max(0, model.longest() - Math.max(0, Math.min(d, 8))));
            int i = normalNear(d);
            int j = normalNear(e);
            int word = wordNear((int) Math.max(0L, Math.min(9L, (long) d + e)));
            due("product(" + d + ", " + i + ", " + e + ", " + j + ", " + word + ")", real.product(d, i, e, j, word), model.product(d, i, e, j, word));
        }
    }

    /** Words are texts, sums are maps from words to numbers, nought is all WORD LAW WORD, by elimination. */
    private static final class Model {
        int n = 2;
        int p = 7;
        String tape = "";
        final List<Map<String, Integer>> laws = new ArrayList<>();
        final List<Integer> lawLengths = new ArrayList<>();
        Map<String, Integer> looked = new TreeMap<>();
        final long[][] sheets = new long[4][];
        final int[] lanes = new int[4];
        /** Basis of what is nought, by length, each row by its greatest word; null if not known. */
        final int[][][] nought = new int[9][][];
        final int[][][] otherNought = new int[9][][];

        int longest() {
            return n == 1 ? 8 : n == 2 ? 7 : 5;
        }

        int words(int d) {
            int many = 1;
            for (int i = 0; i < d; i++) {
                many *= n;
            }
            return many;
        }

        String text(int d, int word) {
            StringBuilder s = new StringBuilder();
            int rest = word;
            for (int i = 0; i < d; i++) {
                s.insert(0, (char) ('a' + rest % n));
                rest /= n;
            }
            return s.toString();
        }

        int numberOf(String word) {
            int number = 0;
            for (char c : word.toCharArray()) {
                number = number * n + (c - 'a');
            }
            return number;
        }

        boolean isLength(int d) {
            return d >= 0 && d <= longest();
        }

        boolean isWord(int d, int word) {
            return isLength(d) && word >= 0 && word < words(d);
        }

        void changed() {
            Arrays.fill(nought, null);
            Arrays.fill(otherNought, null);
        }

        static void add(Map<String, Integer> sum, String word, long v, int p) {
            int number = (int) Math.floorMod(sum.getOrDefault(word, 0) + v, (long) p);
            if (number == 0) {
                sum.remove(word);
            } else {
                sum.put(word, number);
            }
        }

        int inverse(int v) {
            int power = 1;
            for (int i = 0; i < p - 2; i++) {
                power = power * v % p;
            }
            return power;
        }

        /** Rows by their greatest word, reduced by one another. */
        int[][] eliminate(List<int[]> vectors, int width) {
            int[][] rows = new int[width][];
            for (int[] vector : vectors) {
                int[] v = vector.clone();
                for (int c = width - 1; c >= 0; c--) {
                    if (v[c] == 0) {
                        continue;
                    }
                    if (rows[c] == null) {
                        int f = inverse(v[c]);
                        for (int k = 0; k < width; k++) {
                            v[k] = v[k] * f % p;
                        }
                        rows[c] = v;
                        break;
                    }
                    subtract(v, rows[c], v[c]);
                }
            }
            for (int c = 0; c < width; c++) {
                for (int b = c - 1; b >= 0 && rows[c] != null; b--) {
                    if (rows[b] != null && rows[c][b] != 0) {
                        subtract(rows[c], rows[b], rows[c][b]);
                    }
                }
            }
            return rows;
        }

        void subtract(int[] from, int[] row, int factor) {
            for (int k = 0; k < from.length; k++) {
                from[k] = Math.floorMod(from[k] - factor * row[k], p);
            }
        }

        int rank(int[][] rows) {
            int rank = 0;
            for (int[] row : rows) {
                rank += row == null ? 0 : 1;
            }
            return rank;
        }

        int[][] basis(int[][][] known, List<Map<String, Integer>> lawSums, int d) {
            if (known[d] == null) {
                List<int[]> vectors = new ArrayList<>();
                for (Map<String, Integer> law : lawSums) {
                    int length = law.keySet().iterator().next().length();
                    for (int ahead = 0; ahead + length <= d; ahead++) {
                        int behind = d - length - ahead;
                        for (int u = 0; u < words(ahead); u++) {
                            for (int v = 0; v < words(behind); v++) {
                                int[] vector = new int[words(d)];
                                for (Map.Entry<String, Integer> term : law.entrySet()) {
                                    vector[numberOf(text(ahead, u) + term.getKey() + text(behind, v))] = term.getValue();
                                }
                                vectors.add(vector);
                            }
                        }
                    }
                }
                known[d] = eliminate(vectors, words(d));
            }
            return known[d];
        }

        int[][] basis(int d) {
            return basis(nought, laws, d);
        }

        int[] form(int d, int word) {
            int[] v = new int[words(d)];
            v[word] = 1;
            if (basis(d)[word] != null) {
                subtract(v, basis(d)[word], 1);
            }
            return v;
        }

        int begin(int newN, int newP) {
            boolean prime = newP >= 2 && newP <= 97;
            for (int i = 2; prime && i < newP; i++) {
                prime = newP % i != 0;
            }
            if (newN < 1 || newN > 3 || !prime) {
                return -1;
            }
            n = newN;
            p = newP;
            laws.clear();
            lawLengths.clear();
            looked = new TreeMap<>();
            changed();
            return longest();
        }

        int type(String piece) {
            if (tape.length() + piece.length() > 80) {
                return -3;
            }
            tape += piece;
            return tape.length();
        }

        /** Recursive reading by the grammar: answers the place of a fault, or -1 and fills the sum. */
        int parse(String s, Map<String, Integer> sum) {
            int i = blanks(s, 0);
            boolean minus = false;
            if (i < s.length() && s.charAt(i) == '-') {
                minus = true;
                i = blanks(s, i + 1);
            }
            while (true) {
                int start = i;
                while (i < s.length() && Character.isDigit(s.charAt(i))) {
                    i++;
                }
                String digits = s.substring(start, i);
                if (!digits.isEmpty() && new BigInteger(digits).compareTo(BigInteger.valueOf(999)) > 0) {
                    return start;
                }
                i = blanks(s, i);
                StringBuilder word = new StringBuilder();
                while (i < s.length() && s.charAt(i) >= 'a' && s.charAt(i) < 'a' + n) {
                    if (word.length() == longest()) {
                        return i;
                    }
                    word.append(s.charAt(i));
                    i = blanks(s, i + 1);
                }
                if (digits.isEmpty() && word.length() == 0) {
                    return i;
                }
                int number = digits.isEmpty() ? 1 : Integer.parseInt(digits);
                add(sum, word.toString(), minus ? -number : number, p);
                if (i == s.length()) {
                    return -1;
                }
                if (s.charAt(i) != '+' && s.charAt(i) != '-') {
                    return i;
                }
                minus = s.charAt(i) == '-';
                i = blanks(s, i + 1);
            }
        }

        static int blanks(String s, int from) {
            int i = from;
            while (i < s.length() && s.charAt(i) == ' ') {
                i++;
            }
            return i;
        }

        int law() {
            Map<String, Integer> sum = new TreeMap<>();
            int fault = parse(tape, sum);
            tape = "";
            if (fault >= 0) {
                return -20 - fault;
            }
            int length = -1;
            for (String word : sum.keySet()) {
                if (length >= 0 && length != word.length()) {
                    return -2;
                }
                length = word.length();
            }
            if (length < 2 || length > 4) {
                return -2;
            }
            return addLaw(sum, length);
        }

        int addLaw(Map<String, Integer> sum, int length) {
            if (laws.size() == 8) {
                return -3;
            }
            laws.add(sum);
            lawLengths.add(length);
            changed();
            return laws.size() - 1;
        }

        int unlaw() {
            if (laws.isEmpty()) {
                return -2;
            }
            laws.remove(laws.size() - 1);
            lawLengths.remove(lawLengths.size() - 1);
            changed();
            return laws.size();
        }

        int told(int law, int word) {
            if (law < 0 || law >= laws.size()) {
                return -1;
            }
            int d = lawLengths.get(law);
            if (word == -1) {
                return d;
            }
            return isWord(d, word) ? laws.get(law).getOrDefault(text(d, word), 0) : -1;
        }

        List<int[]> leastLaws() {
            List<int[]> all = new ArrayList<>();
            for (int d = 1; d <= longest(); d++) {
                for (int w = 0; w < words(d); w++) {
                    String s = text(d, w);
                    boolean parts = leads(d - 1, numberOf(s.substring(1))) == 1 || leads(d - 1, numberOf(s.substring(0, d - 1))) == 1;
                    if (leads(d, w) == 1 && !parts) {
                        int terms = 0;
                        for (int number : basis(d)[w]) {
                            terms += number == 0 ? 0 : 1;
                        }
                        all.add(new int[] {d, w, terms});
                    }
                }
            }
            return all;
        }

        int count(int what) {
            switch (what) {
                case 0: return n;
                case 1: return p;
                case 2: return longest();
                case 3: return laws.size();
                case 4: return leastLaws().size();
                case 5: return looked.size();
                default: return -1;
            }
        }

        int normal(int d) {
            return isLength(d) ? words(d) - rank(basis(d)) : -1;
        }

        int leads(int d, int word) {
            return !isWord(d, word) ? -1 : basis(d)[word] != null ? 1 : 0;
        }

        int word(int d, int i) {
            if (!isLength(d) || i < 0) {
                return -1;
            }
            int left = i;
            for (int w = 0; w < words(d); w++) {
                if (basis(d)[w] == null && left-- == 0) {
                    return w;
                }
            }
            return -1;
        }

        int plain(int d, int word, int other) {
            return isWord(d, word) && isWord(d, other) ? form(d, other)[word] : -1;
        }

        int least(int i, int what) {
            List<int[]> all = leastLaws();
            return i < 0 || i >= all.size() || what < 0 || what > 2 ? -1 : all.get(i)[what];
        }

        int product(int d, int i, int e, int j, int word) {
            if (!isLength(d) || !isLength(e) || d + e > longest() || word(d, i) < 0 || word(e, j) < 0) {
                return -1;
            }
            return plain(d + e, word, numberOf(text(d, word(d, i)) + text(e, word(e, j))));
        }

        /** A normal word for a row: its differences for all letters, side by side. */
        int middle(int d) {
            if (!isLength(d) || d == longest()) {
                return -1;
            }
            int width = words(d + 1);
            List<int[]> rows = new ArrayList<>();
            for (int w = 0; w < words(d); w++) {
                if (basis(d)[w] == null) {
                    int[] row = new int[width * n];
                    for (int x = 0; x < n; x++) {
                        int[] ahead = form(d + 1, numberOf(text(1, x) + text(d, w)));
                        int[] behind = form(d + 1, numberOf(text(d, w) + text(1, x)));
                        for (int t = 0; t < width; t++) {
                            row[x * width + t] = Math.floorMod(ahead[t] - behind[t], p);
                        }
                    }
                    rows.add(row);
                }
            }
            return rows.size() - rank(eliminate(rows, width * n));
        }

        boolean quadratic() {
            for (int d : lawLengths) {
                if (d != 2) {
                    return false;
                }
            }
            return true;
        }

        /** All that fits the laws: unknowns free or bound by elimination of the laws as equations. */
        List<Map<String, Integer>> otherLaws() {
            int width = words(2);
            List<int[]> equations = new ArrayList<>();
            for (Map<String, Integer> law : laws) {
                int[] row = new int[width];
                for (int w = 0; w < width; w++) {
                    row[w] = law.getOrDefault(text(2, w), 0);
                }
                equations.add(row);
            }
            int[][] rows = eliminate(equations, width);
            List<Map<String, Integer>> all = new ArrayList<>();
            for (int free = 0; free < width; free++) {
                if (rows[free] == null) {
                    Map<String, Integer> sum = new TreeMap<>();
                    add(sum, text(2, free), 1, p);
                    for (int bound = 0; bound < width; bound++) {
                        if (rows[bound] != null) {
                            add(sum, text(2, bound), -rows[bound][free], p);
                        }
                    }
                    checkFits(sum);
                    all.add(sum);
                }
            }
            return all;
        }

        void checkFits(Map<String, Integer> sum) {
            for (Map<String, Integer> law : laws) {
                int total = 0;
                for (Map.Entry<String, Integer> term : law.entrySet()) {
                    total += term.getValue() * sum.getOrDefault(term.getKey(), 0);
                }
                if (total % p != 0) {
                    throw new IllegalStateException("the model is wrong");
                }
            }
        }

        int other(int d) {
            if (!isLength(d)) {
                return -1;
            }
            return quadratic() ? words(d) - rank(basis(otherNought, otherLaws(), d)) : -2;
        }

        int fit() {
            if (!quadratic()) {
                return -2;
            }
            for (int d = 1; d <= longest(); d++) {
                int total = 0;
                for (int i = 0; i <= d; i++) {
                    total += (i % 2 == 0 ? 1 : -1) * normal(d - i) * other(i);
                }
                if (total != 0) {
                    return d;
                }
            }
            return -4;
        }

        int sum() {
            Map<String, Integer> sum = new TreeMap<>();
            int fault = parse(tape, sum);
            tape = "";
            if (fault >= 0) {
                return -20 - fault;
            }
            looked = sum;
            return looked.size();
        }

        int part(int d, int word) {
            return isWord(d, word) ? looked.getOrDefault(text(d, word), 0) : -1;
        }

        int reduce() {
            Map<String, Integer> sum = new TreeMap<>();
            for (Map.Entry<String, Integer> term : looked.entrySet()) {
                int d = term.getKey().length();
                int[] form = form(d, numberOf(term.getKey()));
                for (int w = 0; w < form.length; w++) {
                    add(sum, text(d, w), (long) form[w] * term.getValue(), p);
                }
            }
            looked = sum;
            return looked.size();
        }

        int put(int which, int letter) {
            if (which < 0 || which > 1 || letter < 0 || letter >= n) {
                return -1;
            }
            Map<String, Integer> sum = new TreeMap<>();
            for (Map.Entry<String, Integer> term : looked.entrySet()) {
                if (term.getKey().length() == longest()) {
                    return -3;
                }
                sum.put(which == 0 ? text(1, letter) + term.getKey() : term.getKey() + text(1, letter), term.getValue());
            }
            looked = sum;
            return looked.size();
        }

        int times(int v) {
            if (v < 0 || v > 999) {
                return -1;
            }
            Map<String, Integer> sum = new TreeMap<>();
            for (Map.Entry<String, Integer> term : looked.entrySet()) {
                add(sum, term.getKey(), (long) term.getValue() * v, p);
            }
            looked = sum;
            return looked.size();
        }

        int sheet(int sheet, int lane, int size) {
            if (sheet < 0 || sheet > 3 || lane < 0 || lane > 2 || size > 90) {
                return -1;
            }
            if (size < 0) {
                return -14;
            }
            sheets[sheet] = new long[size];
            lanes[sheet] = lane;
            return size;
        }

        int drop(int sheet) {
            if (sheet < 0 || sheet > 3) {
                return -1;
            }
            if (sheets[sheet] == null) {
                return -11;
            }
            int size = sheets[sheet].length;
            sheets[sheet] = null;
            return size;
        }

        int item(int sheet, int lane, int i, int v) {
            if (sheet < 0 || sheet > 3 || lane < 0 || lane > 2) {
                return -1;
            }
            if (sheets[sheet] == null) {
                return -11;
            }
            if (lanes[sheet] != lane) {
                return -12;
            }
            if (i < 0 || i >= sheets[sheet].length) {
                return -13;
            }
            sheets[sheet][i] = lane == 0 ? (byte) v : v;
            return 1;
        }

        int laws(int sheet, int lane, int from, int d) {
            if (sheet < 0 || sheet > 3 || lane < 0 || lane > 2 || d < 2 || d > 4) {
                return -1;
            }
            if (sheets[sheet] == null) {
                return -11;
            }
            if (lanes[sheet] != lane) {
                return -12;
            }
            if (from < 0 || (long) from + words(d) > sheets[sheet].length) {
                return -13;
            }
            Map<String, Integer> sum = new TreeMap<>();
            for (int w = 0; w < words(d); w++) {
                add(sum, text(d, w), sheets[sheet][from + w], p);
            }
            return sum.isEmpty() ? -2 : addLaw(sum, d);
        }
    }
}
