import java.util.Arrays;

/** Names spelled over a bad line: what was said, what was heard, and how to be sure of it. */
public final class AsInBertha {
    public static final int BAD = -1, NOT = -2, FULL = -3, STATE = -5, VOID = -2000000000;

    private static final int NOTHING = -11, UNLIKE = -12, NO_PLACE = -13, NO_SIZE = -14;
    private static final long NO_NUMBER = -9223372036854775808L;
    private static final int LETTERS = 12, LONGEST = 6, MOST_NAMES = 10, MOST_SAID = 9;
    private static final int SHELVES = 6, MOST_ELEMENTS = 60, SORTS = 5, BYTES = 0;
    private static final int KNOWN = 0, ALIKE = 1, LONG = 2, CLEAR = 3, BAD_LINE = 4, SIZE = 5;
    private static final int KINDS = 8, ACTS = 4;
    /** 100 to the power of its index: below the line of products of hundredths. */
    private static final long[] HUNDREDS = {
        1L, 100L, 10000L, 1000000L, 100000000L, 10000000000L, 1000000000000L};

    private final Line line = new Line();
    private final Names names = new Names();
    private final Speech speech = new Speech(names, line);
    private final Guess guess = new Guess(names, line);
    private final Figures figures = new Figures(line);
    private final Reader reader = new Reader();
    private final Changes changes = new Changes();
    private final Deed deed = new Deed();
    private final Deed kept = new Deed();
    private final Spellings spellings = new Spellings();
    private final Shelf[] shelves = new Shelf[SHELVES];
    private boolean imaged;

    public AsInBertha() {
        for (int i = 0; i < SHELVES; i++) {
            shelves[i] = new Shelf();
        }
    }

    // ---- names, letters, the line

    public int name(int shelf, int in) {
        int n = in % 10;
        if (in < 0 || n < 1 || n > LONGEST) {
            return BAD;
        }
        int refusal = refusedBytes(shelf);
        if (refusal != 0) {
            return refusal;
        }
        int at = in / 10;
        if (!shelves[shelf].spells(at, n)) {
            return BAD;
        }
        return names.number >= MOST_NAMES ? FULL : names.enter(shelves[shelf], at, n);
    }

    public int mend(int number, int what, int v) {
        if (!mendable(number, what) || !within(what, v)) {
            return BAD;
        }
        int was = told(number, what);
        if (was != v) {
            tellAnew(number, what, v);
            changes.enter(number, what, was, v);
        }
        return was;
    }

    public int of(int number, int what) {
        if (what == SIZE) {
            return names.has(number) ? names.sizes[number] : BAD;
        }
        boolean itself = what == ALIKE && twoLetters(number);
        return itself || mendable(number, what) ? told(number, what) : BAD;
    }

    public int letter(int name, int place) {
        if (!names.has(name) || place < 0) {
            return BAD;
        }
        return place < names.sizes[name] ? names.at(name, place) : NOT;
    }

    public int feed(int letter) {
        if (letter < 0 || letter > 255) {
            return BAD;
        }
        return reader.take(letter) ? reader.length : FULL;
    }

    public int law() {
        int fault = reader.read(line.draft);
        reader.length = 0;
        if (fault >= 0) {
            return -100 - fault;
        }
        line.enact();
        return 1;
    }

    public long heard(int sh, int k, int part) {
        if (!twoLetters(sh) || k < 0 || k > MOST_SAID || !fractionPart(part)) {
            return NO_NUMBER;
        }
        int said = sh / 100;
        int as = sh % 100;
        int all = line.total(said, k);
        if (all == 0) {
            return lowest(said == as ? 1 : 0, 1, part);
        }
        return lowest(line.weight(said, as, k), all, part);
    }

    // ---- what was it

    public long likely(int shelf, int name, int part) {
        if (!names.has(name) || !fractionPart(part) || refusedBytes(shelf) != 0) {
            return NO_NUMBER;
        }
        guess.weigh(shelves[shelf], -1);
        return guess.all == 0 ? NOT : lowest(guess.products[name], guess.all, part);
    }

    public int likeliest(int shelf) {
        int refusal = refusedBytes(shelf);
        if (refusal != 0) {
            return refusal;
        }
        guess.weigh(shelves[shelf], -1);
        return guess.best();
    }

    public int sure(int shelf, int x) {
        int refusal = ofTwelve(x) ? refusedBytes(shelf) : BAD;
        if (refusal != 0) {
            return refusal;
        }
        guess.weigh(shelves[shelf], -1);
        int best = guess.best();
        if (best < 0) {
            return NOT;
        }
        return 12 * guess.products[best] > x * guess.all ? 1 : 0;
    }

    public long check(int shelf, int ns, int part) {
        if (ns < 0 || !names.has(ns / 100) || !ofTwelve(ns % 100) || !fractionPart(part)
                || refusedBytes(shelf) != 0) {
            return NO_NUMBER;
        }
        guess.weigh(shelves[shelf], ns % 100);
        return guess.all == 0 ? NOT : lowest(guess.products[ns / 100], guess.all, part);
    }

    public long again(int shelf, int part) {
        if (!fractionPart(part) && part != 2 || refusedBytes(shelf) != 0) {
            return NO_NUMBER;
        }
        guess.weigh(shelves[shelf], -1);
        if (guess.all == 0) {
            return NOT;
        }
        int place = guess.placeToAsk(shelves[shelf].length);
        return part == 2 ? place : lowest(guess.onceMore(place), 100 * guess.all, part);
    }

    // ---- how to say it

    public long right(int name, int set, int part) {
        if (!names.hasSet(name, set) || !fractionPart(part)) {
            return NO_NUMBER;
        }
        speech.prepare(name);
        return lowest(speech.rightBy(name, set), HUNDREDS[names.sizes[name]], part);
    }

    public int time(int name, int set) {
        return names.hasSet(name, set) ? speech.lasts(name, set) : BAD;
    }

    public int leastSaid(int name, int x) {
        if (!names.has(name) || !ofTwelve(x)) {
            return BAD;
        }
        speech.prepare(name);
        return speech.leastSet(name, x);
    }

    public int worst(int name) {
        return names.has(name) ? speech.weakest(name) : BAD;
    }

    // ---- names taken for one another, figures

    public long confused(int ab, int part) {
        int one = ab / 10;
        int other = ab % 10;
        if (ab < 0 || one == other || !names.areEven(one, other) || !fractionPart(part)) {
            return NO_NUMBER;
        }
        return lowest(speech.heardAs(one, other), HUNDREDS[names.sizes[one]], part);
    }

    public int nearest(int name) {
        return names.has(name) ? speech.closestTo(name) : BAD;
    }

    public int pairs() {
        return speech.closestPair();
    }

    public long sums(int shelf, int x, int part) {
        if (x < 0 || x > Figures.MOST || !fractionPart(part) || refusedBytes(shelf) != 0) {
            return NO_NUMBER;
        }
        figures.weigh(shelves[shelf]);
        return figures.all == 0 ? NOT : lowest(figures.ways[x], figures.all, part);
    }

    public int stop(int name, int c) {
        return names.has(name) && c >= 0 && c <= 99 ? speech.stopsAt(name, c) : BAD;
    }

    public int who(int shelf) {
        int refusal = refusedBytes(shelf);
        return refusal != 0 ? refusal : guess.fitting(shelves[shelf]);
    }

    public int odd(int shelf) {
        int refusal = refusedBytes(shelf);
        if (refusal != 0) {
            return refusal;
        }
        guess.weigh(shelves[shelf], -1);
        int best = guess.best();
        return best < 0 ? NOT : names.unlike(best, shelves[shelf]);
    }

    public int fits(int shelf, int name) {
        int refusal = names.has(name) ? refusedBytes(shelf) : BAD;
        return refusal != 0 ? refusal : guess.misfit(shelves[shelf], name);
    }

    public int drawn(int seed, int nn, int what) {
        int times = nn % 100;
        if (nn < 0 || !names.has(nn / 100) || times < 1 || times > 30 || what < 0 || what > 1) {
            return BAD;
        }
        return speech.draws(nn / 100, times, seed, what == 1);
    }

    // ---- in deed

    public int call(int name, int seed) {
        if (!names.has(name)) {
            return BAD;
        }
        if (deed.name >= 0) {
            return STATE;
        }
        deed.begin(name, seed);
        return names.sizes[name];
    }

    public int say(int place, int by) {
        int refusal = by < 0 || by > 1 ? BAD : refusedPlace(place);
        if (refusal != 0) {
            return refusal;
        }
        int said = names.at(deed.name, place);
        int heard = deed.speak(line, said, place, by == 1);
        deed.write(place, heard, by == 1 ? line.longs[said] : 1);
        return heard;
    }

    public int noted(int place) {
        int refusal = refusedPlace(place);
        if (refusal != 0) {
            return refusal;
        }
        return deed.said[place] == 0 ? NOT : deed.noted[place];
    }

    public int hang() {
        if (deed.name < 0) {
            return STATE;
        }
        boolean right = deed.missing(names) == 0 && deed.wrong(names) == 0;
        deed.end(right);
        return right ? 1 : 0;
    }

    public int led(int what) {
        switch (what) {
            case 0:
                return deed.calls;
            case 1:
                return deed.rightCalls;
            case 2:
                return deed.spent;
            case 3:
                return deed.spoken;
            case 4:
                return deed.wrong(names);
            default:
                return BAD;
        }
    }

    public int image() {
        kept.become(deed);
        imaged = true;
        return deed.calls;
    }

    public int back() {
        if (!imaged) {
            return STATE;
        }
        deed.become(kept);
        return deed.calls;
    }

    public int undo() {
        int change = changes.stepBack();
        if (change < 0) {
            return STATE;
        }
        tellAnew(changes.numbers[change], changes.kinds[change], changes.before[change]);
        return changes.done;
    }

    public int redo() {
        int change = changes.stepOn();
        if (change < 0) {
            return STATE;
        }
        tellAnew(changes.numbers[change], changes.kinds[change], changes.behind[change]);
        return changes.undone;
    }

    // ---- acts, shelves

    public int body(int kind) {
        if (kind < 0 || kind >= KINDS) {
            return BAD;
        }
        return spellings.number >= Spellings.MOST ? FULL : spellings.make(kind);
    }

    public int act(int body, int act, int x) {
        spellings.ran = 0;
        if (!spellings.has(body) || act < 0 || act >= ACTS) {
            return 0;
        }
        return spellings.perform(body, act, spellings.kinds[body], x, 0);
    }

    public int trace(int i) {
        return i >= 0 && i < spellings.ran && i < Spellings.TRACED ? spellings.traced[i] : BAD;
    }

    public int keep(int shelf, int body) {
        if (!shelfThere(shelf) || body != -1 && !spellings.has(body)) {
            return BAD;
        }
        shelves[shelf].hold(body);
        return 1;
    }

    public int row(int shelf, int sort, int n) {
        if (!shelfThere(shelf) || sort < 0 || sort >= SORTS || n > MOST_ELEMENTS) {
            return BAD;
        }
        if (n < 0) {
            return NO_SIZE;
        }
        shelves[shelf].holdRow(sort, n);
        return 1;
    }

    public int put(int shelf, int i, long v) {
        int refusal = refusedElement(shelf, i);
        if (refusal != 0) {
            return refusal;
        }
        shelves[shelf].enter(i, v);
        return 1;
    }

    public long element(int shelf, int i) {
        return refusedElement(shelf, i) != 0 ? NO_NUMBER : shelves[shelf].elements[i];
    }

    public int shift(int shelf, int i, int other, int j, int n) {
        if (!shelfThere(shelf) || !shelfThere(other)) {
            return BAD;
        }
        Shelf from = shelves[shelf];
        Shelf to = shelves[other];
        if (from.isEmpty() || to.isEmpty()) {
            return NOTHING;
        }
        if (!from.isRow() || !to.isRow() || from.sort != to.sort) {
            return UNLIKE;
        }
        if (n < 0 || !from.hasRun(i, n) || !to.hasRun(j, n)) {
            return NO_PLACE;
        }
        System.arraycopy(from.elements, i, to.elements, j, n);
        return n;
    }

    public int taken(int shelf, int k) {
        if (!shelfThere(shelf) || k < 0 || k >= KINDS) {
            return BAD;
        }
        Shelf from = shelves[shelf];
        if (from.isEmpty()) {
            return NOTHING;
        }
        if (from.isRow() || !spellings.has(from.body)) {
            return UNLIKE;
        }
        int kind = spellings.kinds[from.body];
        return Spellings.isUnder(kind, k) ? kind : UNLIKE;
    }

    public int count(int what) {
        switch (what) {
            case 0:
                return names.number;
            case 1:
                return reader.length;
            case 2:
                return changes.done;
            case 3:
                return spellings.number;
            case 4:
                return spellings.ran;
            default:
                return BAD;
        }
    }

    // ---- what calls have in common

    private static boolean shelfThere(int shelf) {
        return shelf >= 0 && shelf < SHELVES;
    }

    private static boolean fractionPart(int part) {
        return part == 0 || part == 1;
    }

    private static boolean ofTwelve(int x) {
        return x >= 0 && x < 12;
    }

    private static boolean isLetter(long v) {
        return v >= 0 && v < LETTERS;
    }

    private static boolean twoLetters(int number) {
        return number >= 0 && isLetter(number / 100) && isLetter(number % 100);
    }

    /** Why a SHELF is no ROW of bytes; 0: it is one. */
    private int refusedBytes(int shelf) {
        if (!shelfThere(shelf)) {
            return BAD;
        }
        if (shelves[shelf].isEmpty()) {
            return NOTHING;
        }
        return shelves[shelf].isRow() && shelves[shelf].sort == BYTES ? 0 : UNLIKE;
    }

    private int refusedElement(int shelf, int i) {
        if (!shelfThere(shelf)) {
            return BAD;
        }
        if (shelves[shelf].isEmpty()) {
            return NOTHING;
        }
        if (!shelves[shelf].isRow()) {
            return UNLIKE;
        }
        return shelves[shelf].hasRun(i, 1) ? 0 : NO_PLACE;
    }

    /** Why a place can't be said; one that no NAME can have is BAD even if no CALL is on. */
    private int refusedPlace(int place) {
        if (place < 0 || place >= LONGEST) {
            return BAD;
        }
        if (deed.name < 0) {
            return STATE;
        }
        return place < names.sizes[deed.name] ? 0 : BAD;
    }

    private boolean mendable(int number, int what) {
        switch (what) {
            case KNOWN:
                return names.has(number);
            case ALIKE:
                return twoLetters(number) && number / 100 != number % 100;
            case LONG:
            case CLEAR:
                return isLetter(number);
            case BAD_LINE:
                return number == 0;
            default:
                return false;
        }
    }

    private static boolean within(int what, int v) {
        int least = what == LONG ? 1 : 0;
        int most = what == CLEAR ? 12 : 9;
        return v >= least && v <= most;
    }

    private int told(int number, int what) {
        switch (what) {
            case KNOWN:
                return names.known[number];
            case ALIKE:
                return line.alike[number / 100 * LETTERS + number % 100];
            case LONG:
                return line.longs[number];
            case CLEAR:
                return line.clear[number];
            default:
                return line.noise;
        }
    }

    private void tellAnew(int number, int what, int v) {
        switch (what) {
            case KNOWN:
                names.known[number] = v;
                break;
            case ALIKE:
                line.likenTo(number / 100, number % 100, v);
                break;
            case LONG:
                line.longs[number] = v;
                break;
            case CLEAR:
                line.clear[number] = v;
                break;
            default:
                line.makeNoise(v);
                break;
        }
    }

    /** A fraction in lowest terms: what stands above (0) or below (1) the line. */
    private static long lowest(long above, long below, int part) {
        long shared = below;
        long rest = above;
        // Two longs take fewer than a hundred steps.
        for (int i = 0; i < 200 && rest != 0; i++) {
            long next = shared % rest;
            shared = rest;
            rest = next;
        }
        if (shared == 0) {
            return NO_NUMBER;
        }
        return (part == 0 ? above : below) / shared;
    }

    private static int nextDraw(int z) {
        return z * 1103515245 + 12345;
    }

    /** All NAMES told, and how likely each is ahead. */
    private static final class Names {
        final int[] letters = new int[MOST_NAMES * LONGEST];
        final int[] sizes = new int[MOST_NAMES];
        final int[] known = new int[MOST_NAMES];
        int number;

        boolean has(int name) {
            return name >= 0 && name < number;
        }

        boolean hasSet(int name, int set) {
            return has(name) && set >= 0 && set < 1 << sizes[name];
        }

        boolean areEven(int one, int other) {
            return has(one) && has(other) && sizes[one] == sizes[other];
        }

        int at(int name, int place) {
            return letters[name * LONGEST + place];
        }

        /** The caller has made sure that there is room, and that the ROW spells it. */
        int enter(Shelf row, int from, int n) {
            int name = number;
            for (int i = 0; i < n; i++) {
                letters[name * LONGEST + i] = row.letterAt(from + i);
            }
            sizes[name] = n;
            known[name] = 1;
            number++;
            return name;
        }

        int sumOf(int name) {
            int sum = 0;
            for (int i = 0; i < sizes[name]; i++) {
                sum += at(name, i);
            }
            return sum % 12;
        }

        int unlike(int name, Shelf row) {
            int unlike = 0;
            for (int i = 0; i < sizes[name]; i++) {
                if (row.letterAt(i) != at(name, i)) {
                    unlike++;
                }
            }
            return unlike;
        }
    }

    /** The bad line: what each LETTER is heard as, how often. */
    private static final class Line {
        final int[] alike = new int[LETTERS * LETTERS];
        final int[] longs = new int[LETTERS];
        final int[] clear = new int[LETTERS];
        int noise = 3;
        private Law law;
        private Law draft = new Law();
        /** By k, the LETTER said, the one heard: worked out when first asked for. */
        private final int[] weights = new int[(MOST_SAID + 1) * LETTERS * LETTERS];
        /** By k and the LETTER said: all WEIGHTS; below 0: not worked out yet. */
        private final int[] totals = new int[(MOST_SAID + 1) * LETTERS];

        Line() {
            for (int i = 0; i < LETTERS; i++) {
                alike[i * LETTERS + i] = 9;
            }
            Arrays.fill(longs, 3);
            Arrays.fill(clear, 11);
            Arrays.fill(totals, -1);
        }

        void likenTo(int one, int other, int v) {
            alike[one * LETTERS + other] = v;
            alike[other * LETTERS + one] = v;
            for (int k = 0; k <= MOST_SAID; k++) {
                totals[k * LETTERS + one] = -1;
                totals[k * LETTERS + other] = -1;
            }
        }

        void makeNoise(int v) {
            noise = v;
            Arrays.fill(totals, -1);
        }

        /** The draft becomes THE LAW; the old one's rows serve for the next draft. */
        void enact() {
            Law old = law;
            law = draft;
            draft = old == null ? new Law() : old;
            Arrays.fill(totals, -1);
        }

        int weight(int said, int heard, int k) {
            workOut(said, k);
            return weights[(k * LETTERS + said) * LETTERS + heard];
        }

        int total(int said, int k) {
            workOut(said, k);
            return totals[k * LETTERS + said];
        }

        private void workOut(int said, int k) {
            int row = k * LETTERS + said;
            if (totals[row] >= 0) {
                return;
            }
            int all = 0;
            for (int heard = 0; heard < LETTERS; heard++) {
                int like = alike[said * LETTERS + heard];
                int same = said == heard ? 1 : 0;
                int worth = law == null
                    ? same * 9 + like * noise - 2 * k
                    : law.worth(like, noise, same, said, heard, k);
                int weight = worth < 0 ? 0 : worth > 99 ? 99 : worth;
                weights[row * LETTERS + heard] = weight;
                all += weight;
            }
            totals[row] = all;
        }

        /** PARTS; of what is no LETTER none. */
        int parts(int said, int heard, int k) {
            if (!isLetter(heard)) {
                return 0;
            }
            workOut(said, k);
            int row = k * LETTERS + said;
            if (totals[row] == 0) {
                return said == heard ? 100 : 0;
            }
            return 100 * weights[row * LETTERS + heard] / totals[row];
        }

        /** What is heard by a draw that was made already; without WEIGHTS none is needed. */
        int heardBy(int z, int said, int k) {
            int all = total(said, k);
            if (all == 0) {
                return said;
            }
            int left = (z >>> 8) % all;
            for (int heard = 0; heard < LETTERS; heard++) {
                left -= weight(said, heard, k);
                if (left < 0) {
                    return heard;
                }
            }
            return said;
        }
    }

    /** A TEXT made ready: numbers as they are, all else below 0, operands ahead of their sign. */
    private static final class Law {
        /** The NAMES, in the order of the values that worth() takes. */
        static final String NAMED = "aneshk";
        static final int GUARD = -'?', END = -';', NEGATE = -'~', INVERT = -'!';
        private static final int MOST = 128, VALUES = 6;
        private final int[] code = new int[MOST];
        private final int[] stack = new int[MOST + 1];
        private final int[] values = new int[VALUES];
        private int length;

        void clear() {
            length = 0;
        }

        void emit(int sign) {
            if (length < MOST) {
                code[length] = sign;
                length++;
            }
        }

        int worth(int alike, int noise, int same, int said, int heard, int k) {
            values[0] = alike;
            values[1] = noise;
            values[2] = same;
            values[3] = said;
            values[4] = heard;
            values[5] = k;
            int top = 0;
            boolean passedBy = false;
            for (int i = 0; i < length; i++) {
                int sign = code[i];
                if (sign == END && !passedBy) {
                    return stack[0];
                }
                if (sign == END || sign == GUARD) {
                    passedBy = sign == GUARD && stack[0] == 0;
                    top = 0;
                } else if (!passedBy) {
                    if (sign < -VALUES) {
                        int operands = sign == NEGATE || sign == INVERT ? 1 : 2;
                        top = Math.max(top - operands, 0);
                        stack[top] = made(-sign, stack[top], stack[top + 1]);
                    } else {
                        stack[top] = sign >= 0 ? sign : values[-1 - sign];
                    }
                    top = Math.min(top + 1, MOST - 1);
                }
            }
            return 0;
        }

        /** What a sign makes of one or two operands. */
        private static int made(int sign, int x, int y) {
            switch (sign) {
                case '~':
                    return -x;
                case '!':
                    return x == 0 ? 1 : 0;
                case '|':
                    return x != 0 || y != 0 ? 1 : 0;
                case '&':
                    return x != 0 && y != 0 ? 1 : 0;
                case '<':
                    return x < y ? 1 : 0;
                case '=':
                    return x == y ? 1 : 0;
                case '>':
                    return x > y ? 1 : 0;
                case '+':
                    return x + y;
                case '-':
                    return x - y;
                case '*':
                    return x * y;
                case '/':
                    return y == 0 ? 0 : x / y;
                default:
                    return y == 0 ? 0 : x % y;
            }
        }
    }

    /** THE TAPE, and how it is read. Where reading fails it stands still: that is the FAULT. */
    private static final class Reader {
        private static final int MOST = 120, MOST_OPEN = 6, MOST_DIGITS = 4, COMPARED = 2, OPERAND = 5;
        private final int[] tape = new int[MOST];
        int length;
        private int at;
        private Law law;

        boolean take(int sign) {
            if (length >= MOST) {
                return false;
            }
            tape[length] = sign;
            length++;
            return true;
        }

        /** The FAULT; -1: there is none, and the LAW is ready. */
        int read(Law into) {
            law = into;
            law.clear();
            at = 0;
            boolean fine = readLine();
            for (int i = 0; i < MOST && fine && isAt(';'); i++) {
                at++;
                fine = readLine();
            }
            return fine && at == length ? -1 : at;
        }

        private boolean isAt(char sign) {
            return at < length && tape[at] == sign;
        }

        private boolean readLine() {
            boolean fine = readRank(0, 0);
            if (fine && isAt('?')) {
                at++;
                law.emit(Law.GUARD);
                fine = readRank(0, 0);
            }
            law.emit(Law.END);
            return fine;
        }

        /** E, A, B, S, P are ranks 0 to 4, each parted by signs of its own; 5 is O. */
        private boolean readRank(int rank, int open) {
            if (rank >= OPERAND) {
                return readOperand(open);
            }
            boolean fine = readRank(rank + 1, open);
            int most = rank == COMPARED ? 1 : MOST;
            for (int i = 0; i < most && fine && at < length && rankOf(tape[at]) == rank; i++) {
                int sign = tape[at];
                at++;
                fine = readRank(rank + 1, open);
                law.emit(-sign);
            }
            return fine;
        }

        private static int rankOf(int sign) {
            switch (sign) {
                case '|':
                    return 0;
                case '&':
                    return 1;
                case '<':
                case '=':
                case '>':
                    return COMPARED;
                case '+':
                case '-':
                    return 3;
                case '*':
                case '/':
                case '%':
                    return 4;
                default:
                    return -1;
            }
        }

        private boolean readOperand(int open) {
            if (at >= length) {
                return false;
            }
            int sign = tape[at];
            if (isDigit(sign)) {
                readNumber();
                return true;
            }
            int named = Law.NAMED.indexOf((char) sign);
            if (named >= 0) {
                at++;
                law.emit(-1 - named);
                return true;
            }
            if (open >= MOST_OPEN || sign != '(' && sign != '!' && sign != '-') {
                return false;
            }
            at++;
            if (sign == '(') {
                return readToClose(open + 1);
            }
            boolean fine = readOperand(open + 1);
            law.emit(sign == '-' ? Law.NEGATE : Law.INVERT);
            return fine;
        }

        private boolean readToClose(int open) {
            if (!readRank(0, open) || !isAt(')')) {
                return false;
            }
            at++;
            return true;
        }

        private void readNumber() {
            int number = 0;
            for (int i = 0; i < MOST_DIGITS && at < length && isDigit(tape[at]); i++) {
                number = number * 10 + tape[at] - '0';
                at++;
            }
            law.emit(number);
        }

        private static boolean isDigit(int sign) {
            return sign >= '0' && sign <= '9';
        }
    }

    /** How NAMES are said, and what they are taken for. */
    private static final class Speech {
        private final Names names;
        private final Line line;
        /** PARTS by which each place of the prepared NAME is heard right: plain, by its WORD. */
        private final int[] plain = new int[LONGEST];
        private final int[] byWord = new int[LONGEST];

        Speech(Names names, Line line) {
            this.names = names;
            this.line = line;
        }

        /** Ahead of rightBy() and leastSet(), which would else work out the same PARTS set by set. */
        void prepare(int name) {
            for (int i = 0; i < names.sizes[name]; i++) {
                int letter = names.at(name, i);
                int clear = line.clear[letter];
                plain[i] = line.parts(letter, letter, 0);
                byWord[i] = (clear * 100 + (12 - clear) * plain[i]) / 12;
            }
        }

        /** In hundredths to the power of its LETTERS, as are all products here. */
        long rightBy(int name, int set) {
            long product = 1;
            for (int i = 0; i < names.sizes[name]; i++) {
                product *= (set >> i & 1) != 0 ? byWord[i] : plain[i];
            }
            return product;
        }

        int lasts(int name, int set) {
            int sum = 0;
            for (int i = 0; i < names.sizes[name]; i++) {
                sum += (set >> i & 1) != 0 ? line.longs[names.at(name, i)] : 1;
            }
            return sum;
        }

        int leastSet(int name, int x) {
            int best = NOT;
            int bestTime = 0;
            long wanted = x * HUNDREDS[names.sizes[name]];
            for (int set = 0; set < 1 << names.sizes[name]; set++) {
                int lasting = lasts(name, set);
                if ((best < 0 || lasting < bestTime) && 12 * rightBy(name, set) > wanted) {
                    best = set;
                    bestTime = lasting;
                }
            }
            return best;
        }

        int weakest(int name) {
            int weakest = 0;
            int least = 101;
            for (int i = 0; i < names.sizes[name]; i++) {
                int parts = line.parts(names.at(name, i), names.at(name, i), 0);
                if (parts < least) {
                    weakest = i;
                    least = parts;
                }
            }
            return weakest;
        }

        /** The caller has made sure that both have as many LETTERS. */
        long heardAs(int name, int other) {
            long product = 1;
            for (int i = 0; i < names.sizes[name]; i++) {
                product *= line.parts(names.at(name, i), names.at(other, i), 0);
            }
            return product;
        }

        int closestTo(int name) {
            int closest = NOT;
            long most = -1;
            for (int other = 0; other < names.number; other++) {
                if (other != name && names.areEven(name, other)) {
                    long product = heardAs(name, other);
                    if (product > most) {
                        closest = other;
                        most = product;
                    }
                }
            }
            return closest;
        }

        int closestPair() {
            int closest = NOT;
            long most = -1;
            for (int one = 0; one < names.number; one++) {
                for (int other = one + 1; other < names.number; other++) {
                    if (names.areEven(one, other)) {
                        // As if of six LETTERS, so that pairs of unlike length can be compared.
                        long both = (heardAs(one, other) + heardAs(other, one))
                            * HUNDREDS[LONGEST - names.sizes[one]];
                        if (both > most) {
                            closest = 10 * one + other;
                            most = both;
                        }
                    }
                }
            }
            return closest;
        }

        int stopsAt(int name, int cost) {
            int size = names.sizes[name];
            for (int i = 0; i < size; i++) {
                int letter = names.at(name, i);
                int byWord = 100 * (line.longs[letter] - 1);
                int wasted = (100 - line.parts(letter, letter, 0)) * (size - i + cost);
                if (byWord < wasted) {
                    return i;
                }
            }
            return NOT;
        }

        int draws(int name, int times, int seed, boolean countWrong) {
            int z = seed;
            int right = 0;
            int wrong = 0;
            for (int i = 0; i < times; i++) {
                int wrongAhead = wrong;
                for (int j = 0; j < names.sizes[name]; j++) {
                    int said = names.at(name, j);
                    if (line.total(said, 0) > 0) {
                        z = nextDraw(z);
                    }
                    if (line.heardBy(z, said, 0) != said) {
                        wrong++;
                    }
                }
                if (wrong == wrongAhead) {
                    right++;
                }
            }
            return countWrong ? wrong : right;
        }
    }

    /** Which NAME it was, by what was HEARD. */
    private static final class Guess {
        private final Names names;
        private final Line line;
        final long[] products = new long[MOST_NAMES];
        long all;

        Guess(Names names, Line line) {
            this.names = names;
            this.line = line;
        }

        /** The PRODUCTS of all NAMES, or, with a sum from 0 on, of those with that sum. */
        void weigh(Shelf row, int sum) {
            all = 0;
            for (int name = 0; name < names.number; name++) {
                boolean counts = names.sizes[name] == row.length
                    && (sum < 0 || names.sumOf(name) == sum);
                long product = counts ? names.known[name] : 0;
                for (int i = 0; i < names.sizes[name] && product != 0; i++) {
                    product *= line.parts(names.at(name, i), row.letterAt(i), 0);
                }
                products[name] = product;
                all += product;
            }
        }

        int best() {
            int best = NOT;
            long most = 0;
            for (int name = 0; name < names.number; name++) {
                if (products[name] > most) {
                    best = name;
                    most = products[name];
                }
            }
            return best;
        }

        int placeToAsk(int places) {
            int best = 0;
            long most = -1;
            for (int place = 0; place < places && place < LONGEST; place++) {
                long then = onceMore(place);
                if (then > most) {
                    best = place;
                    most = then;
                }
            }
            return best;
        }

        /** How likely the LIKELIEST is on the mean, if the LETTER at a place is said once more. */
        long onceMore(int place) {
            long sum = 0;
            for (int heard = 0; heard < LETTERS; heard++) {
                long most = 0;
                for (int name = 0; name < names.number; name++) {
                    if (products[name] > 0 && place < names.sizes[name]) {
                        long then = products[name] * line.parts(names.at(name, place), heard, 1);
                        most = Math.max(most, then);
                    }
                }
                sum += most;
            }
            return sum;
        }

        int fitting(Shelf row) {
            int bits = 0;
            for (int name = 0; name < names.number; name++) {
                if (misfit(row, name) == NOT) {
                    bits |= 1 << name;
                }
            }
            return bits;
        }

        int misfit(Shelf row, int name) {
            int size = names.sizes[name];
            int shared = Math.min(size, row.length);
            for (int i = 0; i < shared; i++) {
                if (line.parts(names.at(name, i), row.letterAt(i), 0) == 0) {
                    return i;
                }
            }
            return size == row.length ? NOT : shared;
        }
    }

    /** LETTERS taken as digits: how likely their sum is which. */
    private static final class Figures {
        static final int MOST = 44;
        private static final int MOST_DIGITS = 4;
        private final Line line;
        long[] ways = new long[MOST + 1];
        private long[] longer = new long[MOST + 1];
        long all;

        Figures(Line line) {
            this.line = line;
        }

        /** Rows with like sums are added up digit by digit, not told one by one. */
        void weigh(Shelf row) {
            Arrays.fill(ways, 0);
            ways[0] = 1;
            all = 1;
            for (int i = 0; i < MOST_DIGITS && i < row.length; i++) {
                int heard = row.letterAt(i);
                if (heard < 0) {
                    break;
                }
                lengthen(heard);
            }
        }

        private void lengthen(int heard) {
            Arrays.fill(longer, 0);
            all = 0;
            for (int said = 0; said < LETTERS; said++) {
                int parts = line.parts(said, heard, 0);
                for (int sum = 0; parts != 0 && sum + said <= MOST; sum++) {
                    longer[sum + said] += ways[sum] * parts;
                    all += ways[sum] * parts;
                }
            }
            long[] old = ways;
            ways = longer;
            longer = old;
        }
    }

    /** CHANGES that may be UNDONE or DONE AGAIN, in a ring whose oldest is forgotten first. */
    private static final class Changes {
        private static final int MOST = 40;
        final int[] numbers = new int[MOST];
        final int[] kinds = new int[MOST];
        final int[] before = new int[MOST];
        final int[] behind = new int[MOST];
        int done;
        int undone;
        private int first;

        void enter(int number, int kind, int was, int becomes) {
            if (done == MOST) {
                first = (first + 1) % MOST;
                done--;
            }
            int at = (first + done) % MOST;
            numbers[at] = number;
            kinds[at] = kind;
            before[at] = was;
            behind[at] = becomes;
            done++;
            undone = 0;
        }

        int stepBack() {
            if (done == 0) {
                return -1;
            }
            done--;
            undone++;
            return (first + done) % MOST;
        }

        int stepOn() {
            if (undone == 0) {
                return -1;
            }
            undone--;
            done++;
            return (first + done - 1) % MOST;
        }
    }

    /** The CALL that is on, and what is LED: all that AN IMAGE keeps. */
    private static final class Deed {
        final int[] said = new int[LONGEST];
        final int[] noted = new int[LONGEST];
        int name = -1;
        int calls;
        int rightCalls;
        int spent;
        int spoken;
        private int z;

        void begin(int called, int seed) {
            name = called;
            z = seed;
            Arrays.fill(said, 0);
        }

        int speak(Line line, int letter, int place, boolean byWord) {
            if (byWord) {
                z = nextDraw(z);
                if ((z >>> 8) % 12 < line.clear[letter]) {
                    return letter;
                }
            }
            int k = Math.min(said[place], MOST_SAID);
            if (line.total(letter, k) > 0) {
                z = nextDraw(z);
            }
            return line.heardBy(z, letter, k);
        }

        void write(int place, int heard, int lasting) {
            noted[place] = heard;
            said[place]++;
            spoken++;
            spent += lasting;
        }

        int missing(Names names) {
            int missing = 0;
            for (int i = 0; name >= 0 && i < names.sizes[name]; i++) {
                if (said[i] == 0) {
                    missing++;
                }
            }
            return missing;
        }

        int wrong(Names names) {
            int wrong = 0;
            for (int i = 0; name >= 0 && i < names.sizes[name]; i++) {
                if (said[i] > 0 && noted[i] != names.at(name, i)) {
                    wrong++;
                }
            }
            return wrong;
        }

        void end(boolean right) {
            calls++;
            rightCalls += right ? 1 : 0;
            name = -1;
            spoken = 0;
        }

        void become(Deed other) {
            System.arraycopy(other.said, 0, said, 0, LONGEST);
            System.arraycopy(other.noted, 0, noted, 0, LONGEST);
            name = other.name;
            calls = other.calls;
            rightCalls = other.rightCalls;
            spent = other.spent;
            spoken = other.spoken;
            z = other.z;
        }
    }

    /** SPELLINGS as BODIES of KINDS, and the bodies of their ACTS. */
    private static final class Spellings {
        static final int MOST = 50, TRACED = 24;
        private static final int SAYS = 0, HEARS = 1, ASKS = 2, TELLS = 3, DEEPEST = 40;
        /** By KIND: the KIND above; SPELLING has none. */
        private static final int[] ABOVE = {0, 0, 0, 2, 1, 3, 0, 4};
        /** By KIND and ACT: the body; 0: it has none of its own. */
        private static final int[] OWN = {
            1, 10, 11, 2,
            20, 0, 0, 0,
            0, 30, 0, 0,
            0, 41, 40, 0,
            0, 0, 50, 0,
            0, 0, 0, 60,
            70, 0, 0, 0,
            0, 80, 0, 81};
        final int[] kinds = new int[MOST];
        final int[] traced = new int[TRACED];
        int number;
        int ran;

        boolean has(int body) {
            return body >= 0 && body < number;
        }

        int make(int kind) {
            kinds[number] = kind;
            number++;
            return number - 1;
        }

        static boolean isUnder(int kind, int top) {
            int at = kind;
            for (int i = 0; i < KINDS && at != top; i++) {
                at = ABOVE[at];
            }
            return at == top;
        }

        /** Runs the ACT's body of the KIND from, or of the next above that has one. */
        int perform(int n, int act, int from, int x, int depth) {
            if (depth > DEEPEST) {
                return 0;
            }
            int at = from;
            for (int i = 0; i < KINDS && OWN[at * ACTS + act] == 0; i++) {
                at = ABOVE[at];
            }
            int body = OWN[at * ACTS + act];
            if (ran < TRACED) {
                traced[ran] = body;
            }
            ran++;
            return runBody(body, n, ABOVE[at], x, depth + 1);
        }

        private int runBody(int body, int n, int up, int x, int depth) {
            int own = kinds[n];
            switch (body) {
                case 1:
                    return x + n;
                case 2:
                    return perform(n, HEARS, own, x, depth) - perform(n, ASKS, own, 1, depth);
                case 10:
                    return perform(n, SAYS, own, x, depth) * 2;
                case 11:
                    return x ^ n;
                case 20:
                    return perform(n, SAYS, up, x, depth) + 3;
                case 30:
                    return -perform(n, HEARS, up, x, depth);
                case 40:
                    return perform(n, ASKS, up, x, depth) * 3;
                case 41:
                    return perform(n, HEARS, up, x + 1, depth);
                case 50:
                    return perform(n, ASKS, up, x, depth) - perform(n, SAYS, own, 2, depth);
                case 60:
                    return perform(n, TELLS, up, x, depth) ^ 5;
                case 70:
                    return perform(n, SAYS, up, x, depth) * 2;
                case 80:
                    return perform(n, HEARS, up, x, depth) + perform(n, ASKS, own, 2, depth);
                case 81:
                    return perform(n, TELLS, up, x, depth) - 1;
                default:
                    return 0;
            }
        }
    }

    /** Holds nothing, a SPELLING, or a ROW, whose elements' room is made once. */
    private static final class Shelf {
        private static final int ROW = -2, VACANT = -1;
        final long[] elements = new long[MOST_ELEMENTS];
        int body = VACANT;
        int sort;
        int length;

        boolean isEmpty() {
            return body == VACANT;
        }

        boolean isRow() {
            return body == ROW;
        }

        void hold(int spelling) {
            body = spelling;
        }

        void holdRow(int sortOfRow, int n) {
            body = ROW;
            sort = sortOfRow;
            length = n;
            Arrays.fill(elements, 0);
        }

        boolean hasRun(int i, int n) {
            return i >= 0 && i <= length - n;
        }

        void enter(int i, long v) {
            elements[i] = cut(v);
        }

        private long cut(long v) {
            switch (sort) {
                case 0:
                    return (byte) v;
                case 1:
                    return (short) v;
                case 2:
                    return (int) v;
                case 3:
                    return v;
                default:
                    return v != 0 ? 1 : 0;
            }
        }

        /** The LETTER at a place; -1: there is none. */
        int letterAt(int i) {
            return hasRun(i, 1) && isLetter(elements[i]) ? (int) elements[i] : -1;
        }

        boolean spells(int from, int n) {
            for (int i = 0; i < n; i++) {
                if (letterAt(from + i) < 0) {
                    return false;
                }
            }
            return true;
        }
    }
}
