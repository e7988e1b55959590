import java.math.BigInteger;
import java.util.ArrayList;
import java.util.Arrays;
import java.util.List;
import java.util.Random;

/**
 * Runs of 512 calls, drawn by fixed seeds, against a model that is as slow and plain as can be: exact
 * fractions, all rows told one by one, the LAW read from its text each time.
 */
public final class ModelTests {
    private static final long NONE = Long.MIN_VALUE;
    private static final int RUNS = 1500;
    private static final int CALLS = 512;

    public static void main(String[] args) {
        int wrong = 0;
        for (int seed = 0; seed < RUNS && wrong < 20; seed++) {
            wrong += new Run(seed).go();
        }
        System.out.println(wrong == 0 ? RUNS + " runs are as the model's" : wrong + " runs are not as the model's");
        if (wrong != 0) {
            System.exit(1);
        }
    }

    /** A fraction, or an answer that is none. */
    private static long part(BigInteger above, BigInteger below, int part) {
        BigInteger shared = above.gcd(below);
        return (part == 0 ? above : below).divide(shared).longValueExact();
    }

    private static BigInteger big(long v) {
        return BigInteger.valueOf(v);
    }

    /** Reads a TEXT byte by byte with a pile of what is open. */
    static final class Text {
        static int fault(int[] bytes, int length) {
            List<Character> open = new ArrayList<>();
            List<Boolean> comparedOutside = new ArrayList<>();
            boolean operandDue = true;
            boolean compared = false;
            boolean asked = false;
            int digits = 0;
            for (int i = 0; i < length; i++) {
                char c = (char) bytes[i];
                if (operandDue) {
                    if (c == '(' || c == '!' || c == '-') {
                        if (open.size() == 6) {
                            return i;
                        }
                        open.add(c);
                        if (c == '(') {
                            comparedOutside.add(compared);
                            compared = false;
                        }
                    } else if (c >= '0' && c <= '9' || "aneshk".indexOf(c) >= 0) {
                        digits = c <= '9' ? 1 : 0;
                        operandDue = false;
                        closeSigns(open);
                    } else {
                        return i;
                    }
                } else if (c >= '0' && c <= '9') {
                    if (digits < 1 || digits > 3) {
                        return i;
                    }
                    digits++;
                } else if (c == ')') {
                    if (open.isEmpty()) {
                        return i;
                    }
                    open.remove(open.size() - 1);
                    closeSigns(open);
                    compared = comparedOutside.remove(comparedOutside.size() - 1);
                    digits = 0;
                } else if (c == '|' || c == '&') {
                    compared = false;
                    operandDue = true;
                } else if (c == '<' || c == '=' || c == '>') {
                    if (compared) {
                        return i;
                    }
                    compared = true;
                    operandDue = true;
                } else if ("+-*/%".indexOf(c) >= 0) {
                    operandDue = true;
                } else if (c == '?' && open.isEmpty() && !asked) {
                    asked = true;
                    compared = false;
                    operandDue = true;
                } else if (c == ';' && open.isEmpty()) {
                    asked = false;
                    compared = false;
                    operandDue = true;
                } else {
                    return i;
                }
            }
            return operandDue || !open.isEmpty() ? length : -1;
        }

        private static void closeSigns(List<Character> open) {
            while (!open.isEmpty() && open.get(open.size() - 1) != '(') {
                open.remove(open.size() - 1);
            }
        }

        static int worth(String text, int[] values) {
            for (String line : text.split(";")) {
                int ask = line.indexOf('?');
                if (ask < 0) {
                    return value(line, values);
                }
                if (value(line.substring(0, ask), values) != 0) {
                    return value(line.substring(ask + 1), values);
                }
            }
            return 0;
        }

        /** Parts a text at its last outer sign of the lowest rank. */
        private static int value(String text, int[] values) {
            String[] ranks = {"|", "&", "<=>", "+-", "*/%"};
            for (String signs : ranks) {
                int depth = 0;
                for (int i = text.length() - 1; i > 0; i--) {
                    char c = text.charAt(i);
                    depth += c == ')' ? 1 : c == '(' ? -1 : 0;
                    char ahead = text.charAt(i - 1);
                    boolean between = ahead == ')' || ahead >= '0' && ahead <= '9' || ahead >= 'a' && ahead <= 'z';
                    if (depth == 0 && between && signs.indexOf(c) >= 0) {
                        return join(c, value(text.substring(0, i), values), value(text.substring(i + 1), values));
                    }
                }
            }
            char first = text.charAt(0);
            String rest = text.substring(1);
            if (first == '!') {
                return value(rest, values) == 0 ? 1 : 0;
            }
            if (first == '-') {
                return -value(rest, values);
            }
            if (first == '(') {
                return value(rest.substring(0, rest.length() - 1), values);
            }
            return first <= '9' ? Integer.parseInt(text) : values["aneshk".indexOf(first)];
        }

        private static int join(char sign, int x, int y) {
            return switch (sign) {
                case '|' -> x != 0 | y != 0 ? 1 : 0;
                case '&' -> x != 0 & y != 0 ? 1 : 0;
                case '<' -> x < y ? 1 : 0;
                case '=' -> x == y ? 1 : 0;
                case '>' -> x > y ? 1 : 0;
                case '+' -> x + y;
                case '-' -> x - y;
                case '*' -> x * y;
                case '/' -> y == 0 ? 0 : x / y;
                default -> y == 0 ? 0 : x % y;
            };
        }
    }

    record Change(int number, int what, int was, int now) { }

    static final class Call implements Cloneable {
        int name = -1;
        int z;
        int calls;
        int right;
        int spent;
        List<int[]> said = new ArrayList<>();

        Call copy() {
            Call c = new Call();
            c.name = name;
            c.z = z;
            c.calls = calls;
            c.right = right;
            c.spent = spent;
            c.said = new ArrayList<>(said);
            return c;
        }
    }

    static final class Model {
        final List<int[]> names = new ArrayList<>();
        final int[] known = new int[10];
        final int[][] alike = new int[12][12];
        final int[] longs = new int[12];
        final int[] clear = new int[12];
        int noise = 3;
        int[] tape = new int[120];
        int tapeLength;
        String law;
        List<Change> done = new ArrayList<>();
        List<Change> undone = new ArrayList<>();
        Call call = new Call();
        Call kept;
        List<Integer> bodies = new ArrayList<>();
        List<Integer> ran = new ArrayList<>();
        Object[] shelves = new Object[6];
        int[] sorts = new int[6];

        Model() {
            for (int i = 0; i < 12; i++) {
                alike[i][i] = 9;
                longs[i] = 3;
                clear[i] = 11;
            }
        }

        boolean has(int name) {
            return name >= 0 && name < names.size();
        }

        int weight(int s, int h, int k) {
            int e = s == h ? 1 : 0;
            int v = law == null ? 9 * e + alike[s][h] * noise - 2 * k
                : Text.worth(law, new int[] {alike[s][h], noise, e, s, h, k});
            return Math.max(0, Math.min(99, v));
        }

        int all(int s, int k) {
            int all = 0;
            for (int h = 0; h < 12; h++) {
                all += weight(s, h, k);
            }
            return all;
        }

        int parts(int s, long h, int k) {
            if (h < 0 || h > 11) {
                return 0;
            }
            int all = all(s, k);
            return all == 0 ? s == h ? 100 : 0 : weight(s, (int) h, k) * 100 / all;
        }

        /** 0: a ROW of bytes. */
        int refused(int shelf) {
            if (shelf < 0 || shelf > 5) {
                return -1;
            }
            if (shelves[shelf] == null) {
                return -11;
            }
            return shelves[shelf] instanceof long[] && sorts[shelf] == 0 ? 0 : -12;
        }

        BigInteger product(int name, long[] row) {
            int[] letters = names.get(name);
            BigInteger p = big(letters.length == row.length ? known[name] : 0);
            for (int i = 0; i < letters.length && i < row.length; i++) {
                p = p.multiply(big(parts(letters[i], row[i], 0)));
            }
            return p;
        }

        BigInteger[] products(long[] row, int sum) {
            BigInteger[] p = new BigInteger[names.size()];
            for (int i = 0; i < p.length; i++) {
                p[i] = sum < 0 || Arrays.stream(names.get(i)).sum() % 12 == sum ? product(i, row) : BigInteger.ZERO;
            }
            return p;
        }

        static BigInteger sum(BigInteger[] p) {
            return Arrays.stream(p).reduce(BigInteger.ZERO, BigInteger::add);
        }

        int best(BigInteger[] p) {
            int best = -2;
            for (int i = p.length - 1; i >= 0; i--) {
                if (p[i].signum() > 0 && (best < 0 || p[i].compareTo(p[best]) >= 0)) {
                    best = i;
                }
            }
            return best;
        }

        int nameFrom(int shelf, int in) {
            if (shelf < 0 || shelf > 5 || in < 0 || in % 10 < 1 || in % 10 > 6) {
                return -1;
            }
            if (refused(shelf) != 0) {
                return refused(shelf);
            }
            long[] row = (long[]) shelves[shelf];
            int[] letters = new int[in % 10];
            for (int i = 0; i < letters.length; i++) {
                int at = in / 10 + i;
                if (at >= row.length || row[at] < 0 || row[at] > 11) {
                    return -1;
                }
                letters[i] = (int) row[at];
            }
            if (names.size() == 10) {
                return -3;
            }
            known[names.size()] = 1;
            names.add(letters);
            return names.size() - 1;
        }

        int get(int number, int what) {
            boolean letter = number >= 0 && number < 12;
            boolean two = number >= 0 && number / 100 < 12 && number % 100 < 12;
            return switch (what) {
                case 0 -> has(number) ? known[number] : -1;
                case 1 -> two ? alike[number / 100][number % 100] : -1;
                case 2 -> letter ? longs[number] : -1;
                case 3 -> letter ? clear[number] : -1;
                case 4 -> number == 0 ? noise : -1;
                case 5 -> has(number) ? names.get(number).length : -1;
                default -> -1;
            };
        }

        void set(int number, int what, int v) {
            switch (what) {
                case 0 -> known[number] = v;
                case 1 -> {
                    alike[number / 100][number % 100] = v;
                    alike[number % 100][number / 100] = v;
                }
                case 2 -> longs[number] = v;
                case 3 -> clear[number] = v;
                default -> noise = v;
            }
        }

        int mendTo(int number, int what, int v) {
            int was = get(number, what);
            int[] most = {9, 9, 9, 12, 9};
            if (was < 0 || what > 4 || v < (what == 2 ? 1 : 0) || v > most[what]
                    || what == 1 && number / 100 == number % 100) {
                return -1;
            }
            if (was != v) {
                set(number, what, v);
                done.add(new Change(number, what, was, v));
                undone.clear();
                if (done.size() > 40) {
                    done.remove(0);
                }
            }
            return was;
        }

        long againPart(long[] row, int part) {
            BigInteger[] p = products(row, -1);
            BigInteger all = sum(p);
            if (all.signum() == 0) {
                return -2;
            }
            BigInteger most = big(-1);
            int place = -1;
            for (int i = 0; i < row.length; i++) {
                BigInteger then = BigInteger.ZERO;
                for (int h = 0; h < 12; h++) {
                    BigInteger greatest = BigInteger.ZERO;
                    for (int n = 0; n < p.length; n++) {
                        if (p[n].signum() > 0) {
                            greatest = greatest.max(p[n].multiply(big(parts(names.get(n)[i], h, 1))));
                        }
                    }
                    then = then.add(greatest);
                }
                if (then.compareTo(most) > 0) {
                    most = then;
                    place = i;
                }
            }
            return part == 2 ? place : part(most, all.multiply(big(100)), part);
        }

        BigInteger rightBy(int name, int set) {
            BigInteger p = BigInteger.ONE;
            int[] letters = names.get(name);
            for (int i = 0; i < letters.length; i++) {
                int plain = parts(letters[i], letters[i], 0);
                int c = clear[letters[i]];
                p = p.multiply(big((set & 1 << i) == 0 ? plain : (100 * c + (12 - c) * plain) / 12));
            }
            return p;
        }

        int lasting(int name, int set) {
            int sum = 0;
            int[] letters = names.get(name);
            for (int i = 0; i < letters.length; i++) {
                sum += (set & 1 << i) == 0 ? 1 : longs[letters[i]];
            }
            return sum;
        }

        BigInteger hundreds(int name) {
            return big(100).pow(names.get(name).length);
        }

        int least(int name, int x) {
            int best = -2;
            for (int set = (1 << names.get(name).length) - 1; set >= 0; set--) {
                boolean enough = rightBy(name, set).multiply(big(12)).compareTo(hundreds(name).multiply(big(x))) > 0;
                if (enough && (best < 0 || lasting(name, set) <= lasting(name, best))) {
                    best = set;
                }
            }
            return best;
        }

        int worstOf(int name) {
            int[] letters = names.get(name);
            int worst = letters.length - 1;
            for (int i = worst; i >= 0; i--) {
                if (parts(letters[i], letters[i], 0) <= parts(letters[worst], letters[worst], 0)) {
                    worst = i;
                }
            }
            return worst;
        }

        boolean even(int a, int b) {
            return a != b && has(a) && has(b) && names.get(a).length == names.get(b).length;
        }

        BigInteger confusedAs(int a, int b) {
            BigInteger p = BigInteger.ONE;
            for (int i = 0; i < names.get(a).length; i++) {
                p = p.multiply(big(parts(names.get(a)[i], names.get(b)[i], 0)));
            }
            return p;
        }

        int nearestTo(int name) {
            int best = -2;
            for (int i = names.size() - 1; i >= 0; i--) {
                if (even(name, i) && (best < 0 || confusedAs(name, i).compareTo(confusedAs(name, best)) >= 0)) {
                    best = i;
                }
            }
            return best;
        }

        int closestPair() {
            int best = -2;
            BigInteger most = big(-1);
            BigInteger of = BigInteger.ONE;
            for (int i = 0; i < names.size(); i++) {
                for (int j = i + 1; j < names.size(); j++) {
                    if (even(i, j)) {
                        BigInteger both = confusedAs(i, j).add(confusedAs(j, i));
                        if (both.multiply(of).compareTo(most.multiply(hundreds(i))) > 0) {
                            most = both;
                            of = hundreds(i);
                            best = 10 * i + j;
                        }
                    }
                }
            }
            return best;
        }

        /** All rows, one by one. */
        long sumsPart(long[] row, int x, int part) {
            int n = 0;
            while (n < 4 && n < row.length && row[n] >= 0 && row[n] < 12) {
                n++;
            }
            int[][] table = new int[n][12];
            int rows = 1;
            for (int i = 0; i < n; i++) {
                rows *= 12;
                for (int s = 0; s < 12; s++) {
                    table[i][s] = parts(s, row[i], 0);
                }
            }
            long some = 0;
            long all = 0;
            for (int r = 0; r < rows; r++) {
                int rest = r;
                int sum = 0;
                long p = 1;
                for (int i = 0; i < n; i++) {
                    p *= table[i][rest % 12];
                    sum += rest % 12;
                    rest /= 12;
                }
                all += p;
                some += sum == x ? p : 0;
            }
            return all == 0 ? -2 : part(big(some), big(all), part);
        }

        int stopOf(int name, int c) {
            int[] letters = names.get(name);
            for (int i = 0; i < letters.length; i++) {
                double plain = (100 - parts(letters[i], letters[i], 0)) * (letters.length - i + c) / 100.0;
                if (longs[letters[i]] - 1 < plain - 0.001) {
                    return i;
                }
            }
            return -2;
        }

        int fitsOf(long[] row, int name) {
            int[] letters = names.get(name);
            for (int i = 0; i < 60; i++) {
                if (i == letters.length && i == row.length) {
                    return -2;
                }
                if (i >= letters.length || i >= row.length || parts(letters[i], row[i], 0) == 0) {
                    return i;
                }
            }
            return -2;
        }

        int hear(int s, int k) {
            int all = all(s, k);
            if (all == 0) {
                return s;
            }
            call.z = call.z * 1103515245 + 12345;
            int draw = (call.z >>> 8) % all;
            int together = 0;
            for (int h = 0;; h++) {
                together += weight(s, h, k);
                if (together > draw) {
                    return h;
                }
            }
        }

        int drawnOf(int seed, int name, int n, int what) {
            Call on = call;
            call = new Call();
            call.z = seed;
            int right = 0;
            int wrong = 0;
            for (int i = 0; i < n; i++) {
                int errors = 0;
                for (int s : names.get(name)) {
                    errors += hear(s, 0) == s ? 0 : 1;
                }
                right += errors == 0 ? 1 : 0;
                wrong += errors;
            }
            call = on;
            return what == 0 ? right : wrong;
        }

        int sayOf(int place, int by) {
            if (place < 0 || place > 5 || by < 0 || by > 1) {
                return -1;
            }
            if (call.name < 0) {
                return -5;
            }
            if (place >= names.get(call.name).length) {
                return -1;
            }
            int s = names.get(call.name)[place];
            long k = call.said.stream().filter(p -> p[0] == place).count();
            int heard = -1;
            if (by == 1) {
                call.z = call.z * 1103515245 + 12345;
                heard = (call.z >>> 8) % 12 < clear[s] ? s : -1;
            }
            if (heard < 0) {
                heard = hear(s, (int) Math.min(k, 9));
            }
            call.said.add(new int[] {place, heard});
            call.spent += by == 0 ? 1 : longs[s];
            return heard;
        }

        int notedOf(int place) {
            int noted = -2;
            for (int[] p : call.said) {
                noted = p[0] == place ? p[1] : noted;
            }
            return noted;
        }

        int notedWrong(boolean countMissing) {
            int wrong = 0;
            for (int i = 0; call.name >= 0 && i < names.get(call.name).length; i++) {
                int noted = notedOf(i);
                wrong += noted == names.get(call.name)[i] || noted < 0 && !countMissing ? 0 : 1;
            }
            return wrong;
        }

        int hangUp() {
            if (call.name < 0) {
                return -5;
            }
            int right = notedWrong(true) == 0 ? 1 : 0;
            call.calls++;
            call.right += right;
            call.name = -1;
            call.said.clear();
            return right;
        }

        Spelling spelling(int n) {
            return switch (bodies.get(n)) {
                case 0 -> new Spelling(n, ran);
                case 1 -> new Plain(n, ran);
                case 2 -> new Word(n, ran);
                case 3 -> new Pair(n, ran);
                case 4 -> new Figure(n, ran);
                case 5 -> new Check(n, ran);
                case 6 -> new Again(n, ran);
                default -> new Smith(n, ran);
            };
        }

        int actOf(int body, int act, int x) {
            ran.clear();
            if (body < 0 || body >= bodies.size() || act < 0 || act > 3) {
                return 0;
            }
            Spelling s = spelling(body);
            return switch (act) {
                case 0 -> s.says(x);
                case 1 -> s.hears(x);
                case 2 -> s.asks(x);
                default -> s.tells(x);
            };
        }

        int takenOf(int shelf, int k) {
            if (shelf < 0 || shelf > 5 || k < 0 || k > 7) {
                return -1;
            }
            if (shelves[shelf] == null) {
                return -11;
            }
            Class<?>[] kinds = {Spelling.class, Plain.class, Word.class, Pair.class, Figure.class, Check.class,
                Again.class, Smith.class};
            if (!(shelves[shelf] instanceof Integer body) || !kinds[k].isInstance(spelling(body))) {
                return -12;
            }
            return bodies.get(body);
        }

        int rowRefused(int shelf, int i) {
            if (shelf < 0 || shelf > 5) {
                return -1;
            }
            if (shelves[shelf] == null) {
                return -11;
            }
            if (!(shelves[shelf] instanceof long[] row)) {
                return -12;
            }
            return i < 0 || i >= row.length ? -13 : 0;
        }

        int putOf(int shelf, int i, long v) {
            int refused = rowRefused(shelf, i);
            if (refused != 0) {
                return refused;
            }
            ((long[]) shelves[shelf])[i] = switch (sorts[shelf]) {
                case 0 -> (byte) v;
                case 1 -> (short) v;
                case 2 -> (int) v;
                case 3 -> v;
                default -> v == 0 ? 0 : 1;
            };
            return 1;
        }

        int shiftOf(int shelf, int i, int other, int j, int n) {
            if (shelf < 0 || shelf > 5 || other < 0 || other > 5) {
                return -1;
            }
            if (shelves[shelf] == null || shelves[other] == null) {
                return -11;
            }
            if (!(shelves[shelf] instanceof long[] from) || !(shelves[other] instanceof long[] to)
                    || sorts[shelf] != sorts[other]) {
                return -12;
            }
            try {
                System.arraycopy(from, i, to, j, n);
            } catch (IndexOutOfBoundsException e) {
                return -13;
            }
            return n;
        }
    }

    // The SPELLINGS as Java itself has them.

    interface Says {
        int number();

        List<Integer> ran();

        default int says(int x) {
            ran().add(1);
            return x + number();
        }
    }

    interface Tells {
        List<Integer> ran();

        int hears(int x);

        int asks(int x);

        default int tells(int x) {
            ran().add(2);
            return hears(x) - asks(1);
        }
    }

    static class Spelling implements Says, Tells {
        final int n;
        final List<Integer> ran;

        Spelling(int n, List<Integer> ran) {
            this.n = n;
            this.ran = ran;
        }

        public int number() {
            return n;
        }

        public List<Integer> ran() {
            return ran;
        }

        public int hears(int x) {
            ran.add(10);
            return says(x) * 2;
        }

        public int asks(int x) {
            ran.add(11);
            return x ^ n;
        }
    }

    static class Plain extends Spelling {
        Plain(int n, List<Integer> ran) {
            super(n, ran);
        }

        public int says(int x) {
            ran.add(20);
            return super.says(x) + 3;
        }
    }

    static class Word extends Spelling {
        Word(int n, List<Integer> ran) {
            super(n, ran);
        }

        public int hears(int x) {
            ran.add(30);
            return -super.hears(x);
        }
    }

    static class Pair extends Word {
        Pair(int n, List<Integer> ran) {
            super(n, ran);
        }

        public int asks(int x) {
            ran.add(40);
            return super.asks(x) * 3;
        }

        public int hears(int x) {
            ran.add(41);
            return super.hears(x + 1);
        }
    }

    static class Figure extends Plain {
        Figure(int n, List<Integer> ran) {
            super(n, ran);
        }

        public int asks(int x) {
            ran.add(50);
            return super.asks(x) - says(2);
        }
    }

    static class Check extends Pair {
        Check(int n, List<Integer> ran) {
            super(n, ran);
        }

        public int tells(int x) {
            ran.add(60);
            return super.tells(x) ^ 5;
        }
    }

    static class Again extends Spelling {
        Again(int n, List<Integer> ran) {
            super(n, ran);
        }

        public int says(int x) {
            ran.add(70);
            return super.says(x) * 2;
        }
    }

    static class Smith extends Figure {
        Smith(int n, List<Integer> ran) {
            super(n, ran);
        }

        public int hears(int x) {
            ran.add(80);
            return super.hears(x) + asks(2);
        }

        public int tells(int x) {
            ran.add(81);
            return super.tells(x) - 1;
        }
    }

    /** One object, one model, the same calls. */
    static final class Run {
        final Random random;
        final int seed;
        final AsInBertha x = new AsInBertha();
        final Model m = new Model();
        final int names;
        final List<String> told = new ArrayList<>();
        int wrong;
        int calls;

        Run(int seed) {
            this.seed = seed;
            random = new Random(seed);
            names = 1 + random.nextInt(10);
        }

        int go() {
            while (calls < CALLS && wrong == 0) {
                int group = random.nextInt(100);
                if (group < 12 || m.names.size() < names && group < 40) {
                    rowOfBytes();
                } else if (group < 26) {
                    mendSome();
                } else if (group < 31 && calls < CALLS - 130) {
                    lawSome();
                } else if (group < 60) {
                    guessSome();
                } else if (group < 75) {
                    deedSome();
                } else if (group < 90) {
                    shelfSome();
                } else {
                    actSome();
                }
            }
            return wrong == 0 ? 0 : 1;
        }

        void same(String call, long want, long got) {
            calls++;
            told.add(call + " = " + got);
            if (want != got) {
                wrong++;
                System.out.println("run " + seed + ": " + call + " answered " + got + ", the model " + want);
                for (String t : told.subList(Math.max(0, told.size() - 60), told.size())) {
                    System.out.println("    " + t);
                }
            }
        }

        /** Mostly from 0 below n, now and then beside it or wild. */
        int any(int n) {
            int r = random.nextInt(40);
            if (r == 0) {
                int[] wild = {-1, n, n + 1, Integer.MAX_VALUE, Integer.MIN_VALUE, -100, random.nextInt()};
                return wild[random.nextInt(wild.length)];
            }
            return n <= 0 ? 0 : random.nextInt(n);
        }

        int aName() {
            return any(Math.max(1, m.names.size()));
        }

        int aPart(int n) {
            return any(n);
        }

        void row(int shelf, int sort, int n) {
            int want = 1;
            if (shelf < 0 || shelf > 5 || sort < 0 || sort > 4 || n > 60) {
                want = -1;
            } else if (n < 0) {
                want = -14;
            } else {
                m.shelves[shelf] = new long[n];
                m.sorts[shelf] = sort;
            }
            same("row(" + shelf + ", " + sort + ", " + n + ")", want, x.row(shelf, sort, n));
        }

        void put(int shelf, int i, long v) {
            same("put(" + shelf + ", " + i + ", " + v + ")", m.putOf(shelf, i, v), x.put(shelf, i, v));
        }

        void rowOfBytes() {
            int shelf = random.nextInt(6);
            int n = 1 + random.nextInt(random.nextInt(8) == 0 ? 8 : 4);
            int[] near = m.names.isEmpty() ? new int[0] : m.names.get(random.nextInt(m.names.size()));
            if (near.length > 0 && random.nextInt(3) > 0) {
                n = near.length;
            }
            row(shelf, 0, n);
            for (int i = 0; i < n; i++) {
                boolean asNear = i < near.length && random.nextInt(3) > 0;
                put(shelf, i, asNear ? near[i] : random.nextInt(30) == 0 ? random.nextInt(300) - 20
                    : random.nextInt(12));
            }
            if (random.nextBoolean() && m.names.size() < names || random.nextInt(20) == 0) {
                int in = random.nextInt(4) == 0 ? any(80) : Math.min(n, 6);
                same("name(" + shelf + ", " + in + ")", m.nameFrom(shelf, in), x.name(shelf, in));
            }
        }

        void mendSome() {
            for (int i = random.nextInt(6); i >= 0; i--) {
                int what = random.nextInt(3) > 0 ? 1 : any(6);
                int number = what == 0 || what == 5 ? aName() : what == 1 ? 100 * random.nextInt(12) + any(12)
                    : what == 4 ? any(1) : any(12);
                int v = any(what == 3 ? 13 : 10);
                same("mend(" + number + ", " + what + ", " + v + ")", m.mendTo(number, what, v),
                    x.mend(number, what, v));
                same("of(" + number + ", " + what + ")", m.get(number, what), x.of(number, what));
            }
            if (random.nextInt(3) == 0) {
                for (int i = random.nextInt(4); i > 0; i--) {
                    undoOrRedo(random.nextInt(3) > 0);
                }
            }
            if (random.nextInt(100) == 0) {
                for (int i = 0; i < 45; i++) {
                    undoOrRedo(i < 42);
                }
            }
        }

        void undoOrRedo(boolean undo) {
            List<Change> from = undo ? m.done : m.undone;
            List<Change> to = undo ? m.undone : m.done;
            int want = -5;
            if (!from.isEmpty()) {
                Change c = from.remove(from.size() - 1);
                m.set(c.number, c.what, undo ? c.was : c.now);
                to.add(c);
                want = from.size();
            }
            same(undo ? "undo()" : "redo()", want, undo ? x.undo() : x.redo());
        }

        String expression(int depth) {
            int r = random.nextInt(depth <= 0 ? 4 : 12);
            if (r < 2) {
                return String.valueOf("aneshk".charAt(random.nextInt(6)));
            }
            if (r < 4) {
                return String.valueOf(random.nextInt(random.nextInt(4) == 0 ? 10000 : 12));
            }
            if (r == 4) {
                return "!" + operand(depth - 1);
            }
            if (r == 5) {
                return "-" + operand(depth - 1);
            }
            if (r == 6) {
                return "(" + expression(depth - 1) + ")";
            }
            char sign = "|&<=>+-*/%".charAt(random.nextInt(10));
            return expression(depth - 1) + sign + expression(depth - 1);
        }

        String operand(int depth) {
            return random.nextBoolean() ? "(" + expression(depth) + ")" : String.valueOf("aneshk".charAt(random.nextInt(6)));
        }

        String text() {
            String[] good = {"e*20+a*n/2-k", "s=h?6;a*4", "a", "9-a", "e*9+(s<h)*3", "k>2?e*9;a*n+5", "s=3?0;e*50+a",
                "h=(s+k)%12", "e*99+a"};
            if (random.nextInt(3) > 0) {
                return good[random.nextInt(good.length)];
            }
            StringBuilder b = new StringBuilder();
            for (int i = random.nextInt(3); i >= 0; i--) {
                b.append(b.length() > 0 ? ";" : "");
                b.append(random.nextBoolean() ? expression(4) + "?" : "").append(expression(5));
            }
            if (random.nextInt(3) == 0 && b.length() > 1) {
                b.setCharAt(random.nextInt(b.length()), "aneshk|&<=>+-*/%!()?;0123456789x ".charAt(random.nextInt(33)));
            }
            return b.length() > 122 ? b.substring(0, 122) : b.toString();
        }

        void lawSome() {
            String t = text();
            for (int i = 0; i < t.length(); i++) {
                feed(t.charAt(i));
            }
            if (random.nextInt(10) == 0) {
                feed(any(256));
            }
            same("count(1)", m.tapeLength, x.count(1));
            int fault = Text.fault(m.tape, m.tapeLength);
            if (fault < 0) {
                StringBuilder b = new StringBuilder();
                for (int i = 0; i < m.tapeLength; i++) {
                    b.append((char) m.tape[i]);
                }
                m.law = b.toString();
            }
            m.tapeLength = 0;
            same("law() " + t, fault < 0 ? 1 : -100 - fault, x.law());
            for (int i = 0; i < 3; i++) {
                heardOne();
            }
        }

        void feed(int b) {
            int want = b < 0 || b > 255 ? -1 : m.tapeLength == 120 ? -3 : m.tapeLength + 1;
            if (want > 0) {
                m.tape[m.tapeLength++] = b;
            }
            same("feed(" + b + ")", want, x.feed(b));
        }

        void heardOne() {
            int sh = 100 * random.nextInt(12) + any(12);
            int k = any(10);
            int p = aPart(2);
            long want = NONE;
            if (sh >= 0 && sh / 100 < 12 && sh % 100 < 12 && k >= 0 && k < 10 && (p == 0 || p == 1)) {
                int s = sh / 100;
                int all = m.all(s, k);
                want = all == 0 ? part(big(s == sh % 100 ? 1 : 0), big(1), p)
                    : part(big(m.weight(s, sh % 100, k)), big(all), p);
            }
            same("heard(" + sh + ", " + k + ", " + p + ")", want, x.heard(sh, k, p));
        }

        void guessSome() {
            int shelf = any(6);
            int r = random.nextInt(16);
            int refused = m.refused(shelf);
            long[] row = refused == 0 ? (long[]) m.shelves[shelf] : null;
            if (r < 8) {
                ofRow(shelf, refused, row, r);
            } else {
                ofName(r);
            }
        }

        void ofRow(int shelf, int refused, long[] row, int r) {
            int name = aName();
            int p = aPart(2);
            boolean twoParts = p == 0 || p == 1;
            BigInteger[] products = row == null ? null : m.products(row, -1);
            int best = row == null ? 0 : m.best(products);
            switch (r) {
                case 0 -> {
                    long want = row == null || !m.has(name) || !twoParts ? NONE : best < 0 ? -2
                        : part(products[name], Model.sum(products), p);
                    same("likely(" + shelf + ", " + name + ", " + p + ")", want, x.likely(shelf, name, p));
                }
                case 1 -> same("likeliest(" + shelf + ")", row == null ? refused : best, x.likeliest(shelf));
                case 2 -> {
                    int v = any(12);
                    int want = v < 0 || v > 11 ? -1 : row == null ? refused : best < 0 ? -2
                        : products[best].multiply(big(12)).compareTo(Model.sum(products).multiply(big(v))) > 0 ? 1 : 0;
                    same("sure(" + shelf + ", " + v + ")", want, x.sure(shelf, v));
                }
                case 3 -> {
                    int ns = name < 0 || name > 1000 ? name : 100 * name + any(12);
                    if (m.has(name) && random.nextBoolean()) {
                        ns = 100 * name + Arrays.stream(m.names.get(name)).sum() % 12;
                    }
                    long want = NONE;
                    if (row != null && ns >= 0 && m.has(ns / 100) && ns % 100 < 12 && twoParts) {
                        BigInteger[] some = m.products(row, ns % 100);
                        BigInteger all = Model.sum(some);
                        want = all.signum() == 0 ? -2 : part(some[ns / 100], all, p);
                    }
                    same("check(" + shelf + ", " + ns + ", " + p + ")", want, x.check(shelf, ns, p));
                }
                case 4 -> {
                    int q = aPart(3);
                    long want = row == null || q < 0 || q > 2 ? NONE : m.againPart(row, q);
                    same("again(" + shelf + ", " + q + ")", want, x.again(shelf, q));
                }
                case 5 -> {
                    int v = any(random.nextBoolean() ? 45 : 20);
                    long want = row == null || v < 0 || v > 44 || !twoParts ? NONE : m.sumsPart(row, v, p);
                    same("sums(" + shelf + ", " + v + ", " + p + ")", want, x.sums(shelf, v, p));
                }
                case 6 -> {
                    int who = 0;
                    for (int i = 0; row != null && i < m.names.size(); i++) {
                        who += m.fitsOf(row, i) < 0 ? 1 << i : 0;
                    }
                    same("who(" + shelf + ")", row == null ? refused : who, x.who(shelf));
                    int odd = 0;
                    for (int i = 0; row != null && best >= 0 && i < row.length; i++) {
                        odd += row[i] == m.names.get(best)[i] ? 0 : 1;
                    }
                    same("odd(" + shelf + ")", row == null ? refused : best < 0 ? -2 : odd, x.odd(shelf));
                }
                default -> same("fits(" + shelf + ", " + name + ")",
                    !m.has(name) ? -1 : row == null ? refused : m.fitsOf(row, name), x.fits(shelf, name));
            }
        }

        void ofName(int r) {
            int name = aName();
            boolean has = m.has(name);
            int p = aPart(2);
            boolean twoParts = p == 0 || p == 1;
            int sets = has ? 1 << m.names.get(name).length : 4;
            int set = any(sets);
            boolean hasSet = has && set >= 0 && set < sets;
            switch (r) {
                case 8 -> same("right(" + name + ", " + set + ", " + p + ")", !hasSet || !twoParts ? NONE
                    : part(m.rightBy(name, set), m.hundreds(name), p), x.right(name, set, p));
                case 9 -> same("time(" + name + ", " + set + ")", hasSet ? m.lasting(name, set) : -1,
                    x.time(name, set));
                case 10 -> {
                    int v = any(12);
                    same("leastSaid(" + name + ", " + v + ")", !has || v < 0 || v > 11 ? -1 : m.least(name, v),
                        x.leastSaid(name, v));
                }
                case 11 -> same("worst(" + name + ")", has ? m.worstOf(name) : -1, x.worst(name));
                case 12 -> {
                    int ab = name < 0 || name > 1000 ? name : 10 * name + aName();
                    long want = ab < 0 || !m.even(ab / 10, ab % 10) || !twoParts ? NONE
                        : part(m.confusedAs(ab / 10, ab % 10), m.hundreds(ab / 10), p);
                    same("confused(" + ab + ", " + p + ")", want, x.confused(ab, p));
                    same("nearest(" + name + ")", has ? m.nearestTo(name) : -1, x.nearest(name));
                }
                case 13 -> same("pairs()", m.closestPair(), x.pairs());
                case 14 -> {
                    int c = any(random.nextBoolean() ? 100 : 8);
                    same("stop(" + name + ", " + c + ")", !has || c < 0 || c > 99 ? -1 : m.stopOf(name, c),
                        x.stop(name, c));
                }
                default -> {
                    int place = any(6);
                    int want = !has || place < 0 ? -1 : place >= m.names.get(name).length ? -2
                        : m.names.get(name)[place];
                    same("letter(" + name + ", " + place + ")", want, x.letter(name, place));
                    heardOne();
                    int z = random.nextInt();
                    int nn = name < 0 || name > 1000 ? name : 100 * name + any(31);
                    int what = any(2);
                    boolean fine = nn >= 0 && m.has(nn / 100) && nn % 100 > 0 && nn % 100 < 31 && (what == 0 || what == 1);
                    same("drawn(" + z + ", " + nn + ", " + what + ")",
                        fine ? m.drawnOf(z, nn / 100, nn % 100, what) : -1, x.drawn(z, nn, what));
                }
            }
        }

        void deedSome() {
            for (int i = random.nextInt(8); i >= 0; i--) {
                int r = random.nextInt(16);
                if (r < 2 || m.call.name < 0 && r < 8) {
                    int name = aName();
                    int z = random.nextInt();
                    int want = !m.has(name) ? -1 : m.call.name >= 0 ? -5 : m.names.get(name).length;
                    if (want > 0) {
                        m.call.name = name;
                        m.call.z = z;
                    }
                    same("call(" + name + ", " + z + ")", want, x.call(name, z));
                } else if (r < 9) {
                    int place = any(m.call.name < 0 ? 6 : m.names.get(m.call.name).length);
                    int by = any(2);
                    same("say(" + place + ", " + by + ")", m.sayOf(place, by), x.say(place, by));
                } else if (r < 11) {
                    int place = any(6);
                    int want = place < 0 || place > 5 ? -1 : m.call.name < 0 ? -5
                        : place >= m.names.get(m.call.name).length ? -1 : m.notedOf(place);
                    same("noted(" + place + ")", want, x.noted(place));
                } else if (r == 11) {
                    same("hang()", m.hangUp(), x.hang());
                } else if (r < 14) {
                    ledOne();
                } else if (r == 14) {
                    m.kept = m.call.copy();
                    same("image()", m.kept.calls, x.image());
                } else if (random.nextInt(3) == 0) {
                    if (m.kept != null) {
                        m.call = m.kept.copy();
                    }
                    same("back()", m.kept == null ? -5 : m.call.calls, x.back());
                }
            }
        }

        void ledOne() {
            int what = any(5);
            int want = switch (what) {
                case 0 -> m.call.calls;
                case 1 -> m.call.right;
                case 2 -> m.call.spent;
                case 3 -> m.call.said.size();
                case 4 -> m.notedWrong(false);
                default -> -1;
            };
            same("led(" + what + ")", want, x.led(what));
        }

        void shelfSome() {
            int shelf = any(6);
            int i = any(8);
            switch (random.nextInt(7)) {
                case 0 -> row(shelf, random.nextInt(3) == 0 ? any(5) : 0, random.nextInt(5) == 0 ? any(61) : any(8));
                case 1 -> put(shelf, i, random.nextInt(4) == 0 ? random.nextLong() : random.nextInt(12));
                case 2 -> {
                    int refused = m.rowRefused(shelf, i);
                    same("element(" + shelf + ", " + i + ")", refused != 0 ? NONE : ((long[]) m.shelves[shelf])[i],
                        x.element(shelf, i));
                }
                case 3 -> {
                    int other = random.nextInt(3) == 0 ? shelf : any(6);
                    int j = any(6);
                    int n = any(5);
                    same("shift(" + shelf + ", " + i + ", " + other + ", " + j + ", " + n + ")",
                        m.shiftOf(shelf, i, other, j, n), x.shift(shelf, i, other, j, n));
                }
                case 4 -> {
                    int body = any(m.bodies.size() + 1) - 1;
                    boolean fine = shelf >= 0 && shelf < 6 && body >= -1 && body < m.bodies.size();
                    if (fine && random.nextInt(2) > 0) {
                        return;
                    }
                    if (fine) {
                        m.shelves[shelf] = body < 0 ? null : (Integer) body;
                    }
                    same("keep(" + shelf + ", " + body + ")", fine ? 1 : -1, x.keep(shelf, body));
                }
                case 5 -> {
                    int k = any(8);
                    same("taken(" + shelf + ", " + k + ")", m.takenOf(shelf, k), x.taken(shelf, k));
                }
                default -> countOne();
            }
        }

        void countOne() {
            int what = any(5);
            int want = switch (what) {
                case 0 -> m.names.size();
                case 1 -> m.tapeLength;
                case 2 -> m.done.size();
                case 3 -> m.bodies.size();
                case 4 -> m.ran.size();
                default -> -1;
            };
            same("count(" + what + ")", want, x.count(what));
        }

        void actSome() {
            if (random.nextInt(3) == 0) {
                int kind = any(8);
                int want = kind < 0 || kind > 7 ? -1 : m.bodies.size() == 50 ? -3 : m.bodies.size();
                if (want >= 0) {
                    m.bodies.add(kind);
                }
                same("body(" + kind + ")", want, x.body(kind));
            }
            int body = any(m.bodies.size());
            int act = any(4);
            int v = random.nextBoolean() ? random.nextInt() : random.nextInt(20);
            same("act(" + body + ", " + act + ", " + v + ")", m.actOf(body, act, v), x.act(body, act, v));
            int i = any(10);
            same("trace(" + i + ")", i >= 0 && i < m.ran.size() && i < 24 ? m.ran.get(i) : -1, x.trace(i));
            countOne();
        }
    }
}
