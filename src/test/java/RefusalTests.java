import java.util.ArrayList;
import java.util.List;

/**
 * "What is answered so changes nothing": each refusal of each promise, on objects in many states. Behind it the
 * object answers all that can be asked of it as its twin does that was never asked the refused call. Calls that
 * only tell something are asked so, too.
 */
public final class RefusalTests extends Answers {
    private static final int MIN = Integer.MIN_VALUE, MAX = Integer.MAX_VALUE;

    /** A call whose answer is due. */
    private interface Call {
        long of(AsInBertha x);
    }

    private record Asked(String what, long want, Call call) { }

    private static final List<Asked> asked = new ArrayList<>();

    private static void ask(String what, long want, Call call) {
        asked.add(new Asked(what, want, call));
    }

    public static void main(String[] args) {
        refusedAlways();
        refusedWithoutCall();
        check("quiet", () -> quiet());
        refusedAlways();
        refusedInCall();
        telling();
        check("busy", () -> busy());
        refusedWhenFull();
        check("full", () -> full());
        refusedWhenNew();
        check("new", () -> new AsInBertha());
        tell();
    }

    private static void refusedAlways() {
        refusedNames();
        refusedMends();
        refusedGuesses();
        refusedSayings();
        refusedFigures();
        refusedShelves();
    }

    // ---- states

    private interface Maker {
        AsInBertha made();
    }

    /** Four NAMES, mended, by a LAW; changes to undo and to do again; something of all kinds on SHELVES. */
    private static AsInBertha quiet() {
        AsInBertha x = new AsInBertha();
        named(x, 1, 2, 3);
        named(x, 2, 2, 3);
        named(x, 4);
        named(x, 1, 2, 3, 4, 5, 6);
        x.mend(102, 1, 1);
        x.mend(405, 1, 2);
        x.mend(3, 0, 5);
        lawOf(x, "s=h?6+k;a*4");
        x.mend(4, 2, 7);
        x.mend(4, 3, 8);
        x.mend(0, 4, 6);
        x.undo();
        x.undo();
        fed(x, "a+1");
        x.body(7);
        x.body(3);
        x.act(0, 3, 5);
        bytes(x, 0, 1, 2, 12);
        bytes(x, 1, 2, 2, 3);
        x.row(2, 1, 2);
        x.put(2, 1, 300);
        x.keep(3, 1);
        bytes(x, 5);
        x.call(0, 77);
        x.say(0, 1);
        x.hang();
        x.image();
        return x;
    }

    /** The same in a CALL, three LETTERS said, one wrong, one place not NOTED. */
    private static AsInBertha busy() {
        AsInBertha x = quiet();
        x.call(1, 5);
        x.image();
        x.say(0, 0);
        x.say(0, 1);
        x.say(2, 1);
        return x;
    }

    /** Ten NAMES, 120 bytes on THE TAPE, fifty BODIES. */
    private static AsInBertha full() {
        AsInBertha x = new AsInBertha();
        bytes(x, 0, 1, 2, 12);
        for (int i = 0; i < 10; i++) {
            x.name(0, 1 + i % 2);
        }
        fed(x, "e?1" + "+1".repeat(56) + "+10;1");
        for (int i = 0; i < 50; i++) {
            x.body(i % 8);
        }
        x.row(2, 1, 2);
        x.keep(3, 49);
        return x;
    }

    // ---- what can be asked of an object

    /** All that tells without a change: some 300 calls. */
    private static void readOff(AsInBertha x, List<Long> told) {
        for (int what = 0; what < 5; what++) {
            told.add((long) x.count(what));
            told.add((long) x.led(what));
        }
        for (int name = 0; name < x.count(0); name++) {
            told.add((long) x.of(name, 0));
            told.add((long) x.of(name, 5));
            for (int place = 0; place < 6; place++) {
                told.add((long) x.letter(name, place));
            }
        }
        for (int letter = 0; letter < 12; letter++) {
            told.add((long) x.of(letter, 2));
            told.add((long) x.of(letter, 3));
            told.add((long) x.of(100 * letter + (letter + 1) % 12, 1));
            told.add(x.heard(101 * letter, 0, 1));
            told.add(x.heard(101 * letter, 3, 1));
        }
        told.add((long) x.of(0, 4));
        for (int shelf = 0; shelf < 6; shelf++) {
            told.add((long) x.taken(shelf, 0));
            told.add((long) x.likeliest(shelf));
            for (int i = 0; i < 5; i++) {
                told.add((long) x.put(shelf, i, 1 + i));
                told.add(x.element(shelf, i));
            }
        }
        for (int i = 0; i < 6; i++) {
            told.add((long) x.noted(i));
        }
        for (int i = 0; i < 15; i++) {
            told.add((long) x.trace(i));
        }
    }

    /** The elements, as they are: readOff() puts others there. */
    private static void readShelves(AsInBertha x, List<Long> told) {
        for (int shelf = 0; shelf < 6; shelf++) {
            for (int i = 0; i < 5; i++) {
                told.add(x.element(shelf, i));
            }
        }
    }

    /** What is told by going on: draws, changes undone and done again, THE TAPE, AN IMAGE, the next numbers. */
    private static void goOn(AsInBertha x, List<Long> told) {
        for (int i = 0; i < 12; i++) {
            told.add((long) x.say(i % 3, i % 2));
        }
        for (int i = 0; i < 3; i++) {
            told.add((long) x.redo());
            told.add((long) x.of(0, 4));
            told.add((long) x.of(4, 3));
        }
        for (int i = 0; i < 8; i++) {
            told.add((long) x.undo());
            told.add((long) x.of(4, 2));
            told.add((long) x.of(3, 0));
        }
        told.add((long) x.hang());
        told.add((long) x.back());
        for (int i = 0; i < 12; i++) {
            told.add((long) x.say(i % 3, i % 2));
            told.add((long) x.led(i % 5));
        }
        told.add((long) x.feed('0'));
        told.add((long) x.law());
        told.add(x.heard(404, 0, 1));
        told.add(x.heard(405, 0, 0));
        told.add((long) x.name(0, 1));
        told.add((long) x.body(1));
    }

    private static List<Long> told(AsInBertha x, boolean goingOn) {
        List<Long> told = new ArrayList<>();
        if (goingOn) {
            goOn(x, told);
        } else {
            readShelves(x, told);
            readOff(x, told);
        }
        return told;
    }

    private static void check(String state, Maker maker) {
        for (boolean goingOn : new boolean[] {false, true}) {
            List<Long> twin = told(maker.made(), goingOn);
            for (Asked a : asked) {
                AsInBertha x = maker.made();
                due(state + ": " + a.what, a.want, a.call.of(x));
                List<Long> now = told(x, goingOn);
                int like = 0;
                while (like < twin.size() && like < now.size() && now.get(like).equals(twin.get(like))) {
                    like++;
                }
                due(state + ": answers as ahead of " + a.what, twin.size(), like);
            }
        }
        asked.clear();
    }

    // ---- the refusals, by promise

    private static void refusedNames() {
        int[][] bad = {{-1, 1}, {6, 1}, {0, 0}, {0, 7}, {0, 9}, {0, -1}, {0, 3}, {0, 21}, {0, 31}, {0, MIN}, {0, MAX},
            {5, 1}, {4, 0}, {2, 7}};
        for (int[] b : bad) {
            ask("2 name(" + b[0] + ", " + b[1] + ")", BAD, x -> x.name(b[0], b[1]));
        }
        ask("2 name of nothing", NOTHING, x -> x.name(4, 1));
        ask("2 name of shorts", UNLIKE, x -> x.name(2, 1));
        ask("2 name of a spelling", UNLIKE, x -> x.name(3, 1));
        int[][] noLetter = {{-1, 0}, {4, 0}, {0, -1}, {MAX, 0}, {0, MIN}};
        for (int[] b : noLetter) {
            ask("5 letter(" + b[0] + ", " + b[1] + ")", BAD, x -> x.letter(b[0], b[1]));
        }
        ask("5 letter behind", NOT, x -> x.letter(2, 1));
        ask("5 letter far behind", NOT, x -> x.letter(2, MAX));
        for (int b : new int[] {-1, 256, MIN, MAX}) {
            ask("6 feed(" + b + ")", BAD, x -> x.feed(b));
        }
    }

    private static void refusedMends() {
        int[][] bad = {{4, 0, 1}, {-1, 0, 1}, {0, 0, -1}, {0, 0, 10}, {101, 1, 1}, {1111, 1, 1}, {0, 1, 1},
            {102, 1, -1}, {102, 1, 10}, {12, 1, 1}, {1200, 1, 1}, {-1, 1, 1}, {-100, 1, 1}, {12, 2, 1}, {-1, 2, 1},
            {4, 2, 0}, {4, 2, 10}, {12, 3, 1}, {-1, 3, 1}, {4, 3, -1}, {4, 3, 13}, {1, 4, 1}, {-1, 4, 1}, {0, 4, -1},
            {0, 4, 10}, {0, 5, 1}, {0, -1, 1}, {0, MAX, 1}, {MIN, 1, 1}, {MAX, 1, 1}, {0, 0, MIN}};
        for (int[] b : bad) {
            ask("3 mend(" + b[0] + ", " + b[1] + ", " + b[2] + ")", BAD, x -> x.mend(b[0], b[1], b[2]));
        }
        int[][] badOf = {{4, 0}, {-1, 0}, {1200, 1}, {12, 1}, {-1, 1}, {12, 2}, {-1, 2}, {12, 3}, {-1, 3}, {1, 4},
            {-1, 4}, {4, 5}, {-1, 5}, {0, 6}, {0, -1}, {0, MIN}};
        for (int[] b : badOf) {
            ask("4 of(" + b[0] + ", " + b[1] + ")", BAD, x -> x.of(b[0], b[1]));
        }
        int[][] unheard = {{-1, 0, 0}, {12, 0, 0}, {1200, 0, 0}, {101, -1, 0}, {101, 10, 0}, {101, 0, -1},
            {101, 0, 2}, {MIN, 0, 0}, {MAX, 0, 0}, {101, MIN, 0}, {101, 0, MAX}};
        for (int[] b : unheard) {
            ask("8 heard(" + b[0] + ", " + b[1] + ", " + b[2] + ")", NONE, x -> x.heard(b[0], b[1], b[2]));
        }
    }

    private static void refusedGuesses() {
        int[] shelves = {-1, 6, 4, 2, 3, 0, 5};
        int[] whys = {BAD, BAD, NOTHING, UNLIKE, UNLIKE, NOT, NOT};
        for (int i = 0; i < shelves.length; i++) {
            int shelf = shelves[i];
            int why = whys[i];
            long longWhy = why == NOT ? NOT : NONE;
            ask("9 likely of " + shelf, longWhy, x -> x.likely(shelf, 0, 0));
            ask("10 likeliest of " + shelf, why, x -> x.likeliest(shelf));
            ask("11 sure of " + shelf, why, x -> x.sure(shelf, 3));
            ask("12 check of " + shelf, longWhy, x -> x.check(shelf, 6, 0));
            ask("13 again of " + shelf, longWhy, x -> x.again(shelf, 2));
            ask("24 odd of " + shelf, why, x -> x.odd(shelf));
        }
        int[][] parts = {{4, 0}, {-1, 0}, {0, -1}, {0, 2}, {MAX, 0}, {0, MIN}};
        for (int[] b : parts) {
            ask("9 likely(1, " + b[0] + ", " + b[1] + ")", NONE, x -> x.likely(1, b[0], b[1]));
        }
        ask("11 x below", BAD, x -> x.sure(1, -1));
        ask("11 x above", BAD, x -> x.sure(1, 12));
        int[][] sums = {{-1, 0}, {12, 0}, {406, 0}, {6, -1}, {6, 2}, {MIN, 0}, {MAX, 0}, {-100, 0}};
        for (int[] b : sums) {
            ask("12 check(1, " + b[0] + ", " + b[1] + ")", NONE, x -> x.check(1, b[0], b[1]));
        }
        ask("12 no such sum", NOT, x -> x.check(1, 1, 0));
        ask("13 part below", NONE, x -> x.again(1, -1));
        ask("13 part above", NONE, x -> x.again(1, 3));
    }

    private static void refusedSayings() {
        int[][] sets = {{4, 0}, {-1, 0}, {0, -1}, {0, 8}, {2, 2}, {3, 64}, {MAX, 0}, {0, MIN}, {0, MAX}};
        for (int[] b : sets) {
            ask("14 right(" + b[0] + ", " + b[1] + ", 0)", NONE, x -> x.right(b[0], b[1], 0));
            ask("15 time(" + b[0] + ", " + b[1] + ")", BAD, x -> x.time(b[0], b[1]));
        }
        ask("14 part below", NONE, x -> x.right(0, 0, -1));
        ask("14 part above", NONE, x -> x.right(0, 0, 2));
        int[][] least = {{4, 0}, {-1, 0}, {0, -1}, {0, 12}, {MIN, 0}, {0, MAX}};
        for (int[] b : least) {
            ask("16 leastSaid(" + b[0] + ", " + b[1] + ")", BAD, x -> x.leastSaid(b[0], b[1]));
        }
        for (int b : new int[] {-1, 4, MIN, MAX}) {
            ask("17 worst(" + b + ")", BAD, x -> x.worst(b));
            ask("19 nearest(" + b + ")", BAD, x -> x.nearest(b));
            ask("22 stop(" + b + ", 0)", BAD, x -> x.stop(b, 0));
            ask("25 fits(1, " + b + ")", BAD, x -> x.fits(1, b));
            ask("27 call(" + b + ", 0)", BAD, x -> x.call(b, 0));
        }
        ask("22 c below", BAD, x -> x.stop(0, -1));
        ask("22 c above", BAD, x -> x.stop(0, 100));
        ask("22 at none", NOT, x -> x.stop(2, 0));
        ask("19 none of as many", NOT, x -> x.nearest(2));
    }

    private static void refusedFigures() {
        for (int b : new int[] {-1, 0, 11, 2, 20, 4, 40, 100, MIN, MAX}) {
            ask("18 confused(" + b + ", 0)", NONE, x -> x.confused(b, 0));
        }
        ask("18 part below", NONE, x -> x.confused(1, -1));
        ask("18 part above", NONE, x -> x.confused(1, 2));
        int[][] sums = {{-1, 0, 0}, {6, 0, 0}, {4, 0, 0}, {2, 0, 0}, {3, 0, 0}, {1, -1, 0}, {1, 45, 0}, {1, 0, -1},
            {1, 0, 2}, {1, MIN, 0}};
        for (int[] b : sums) {
            ask("21 sums(" + b[0] + ", " + b[1] + ", " + b[2] + ")", NONE, x -> x.sums(b[0], b[1], b[2]));
        }
        int[] shelves = {-1, 6, 4, 2, 3};
        int[] whys = {BAD, BAD, NOTHING, UNLIKE, UNLIKE};
        for (int i = 0; i < shelves.length; i++) {
            int shelf = shelves[i];
            ask("23 who(" + shelf + ")", whys[i], x -> x.who(shelf));
            ask("25 fits(" + shelf + ", 0)", whys[i], x -> x.fits(shelf, 0));
        }
        int[][] draws = {{0, 0}, {31, 0}, {99, 0}, {401, 0}, {-1, 0}, {-99, 0}, {1, -1}, {1, 2}, {MIN, 0}, {MAX, 0}};
        for (int[] b : draws) {
            ask("26 drawn(7, " + b[0] + ", " + b[1] + ")", BAD, x -> x.drawn(7, b[0], b[1]));
        }
        for (int b : new int[] {-1, 5, MIN, MAX}) {
            ask("31 led(" + b + ")", BAD, x -> x.led(b));
            ask("45 count(" + b + ")", BAD, x -> x.count(b));
        }
        for (int b : new int[] {-1, 14, 24, 25, MIN, MAX}) {
            ask("38 trace(" + b + ")", BAD, x -> x.trace(b));
        }
    }

    private static void refusedShelves() {
        for (int b : new int[] {-1, 8, MIN, MAX}) {
            ask("36 body(" + b + ")", BAD, x -> x.body(b));
            ask("44 taken(3, " + b + ")", BAD, x -> x.taken(3, b));
        }
        int[][] kept = {{-1, 0}, {6, -1}, {0, -2}, {0, 2}, {3, 50}, {3, MIN}, {3, MAX}, {2, 2}};
        for (int[] b : kept) {
            ask("39 keep(" + b[0] + ", " + b[1] + ")", BAD, x -> x.keep(b[0], b[1]));
        }
        int[][] rows = {{-1, 0, 1}, {6, 0, 1}, {0, -1, 1}, {0, 5, 1}, {0, 0, 61}, {3, 0, MAX}, {0, 5, -1}};
        for (int[] b : rows) {
            ask("40 row(" + b[0] + ", " + b[1] + ", " + b[2] + ")", BAD, x -> x.row(b[0], b[1], b[2]));
        }
        for (int shelf = 0; shelf < 6; shelf++) {
            int on = shelf;
            ask("40 row below on " + on, NO_SIZE, x -> x.row(on, 1, -1));
            ask("40 row far below on " + on, NO_SIZE, x -> x.row(on, 0, MIN));
        }
        int[][] puts = {{-1, 0, BAD}, {6, 0, BAD}, {4, 0, NOTHING}, {3, 0, UNLIKE}, {0, -1, NO_PLACE}, {0, 3, NO_PLACE},
            {2, 2, NO_PLACE}, {5, 0, NO_PLACE}, {0, MAX, NO_PLACE}, {0, MIN, NO_PLACE}};
        for (int[] b : puts) {
            ask("41 put(" + b[0] + ", " + b[1] + ", 9)", b[2], x -> x.put(b[0], b[1], 9));
            ask("42 element(" + b[0] + ", " + b[1] + ")", NONE, x -> x.element(b[0], b[1]));
        }
        int[][] shifts = {{-1, 0, 0, 0, 1, BAD}, {6, 0, 0, 0, 1, BAD}, {0, 0, -1, 0, 1, BAD}, {0, 0, 6, 0, 1, BAD},
            {4, 0, 0, 0, 1, NOTHING}, {0, 0, 4, 0, 1, NOTHING}, {3, 0, 4, 0, 1, NOTHING}, {3, 0, 0, 0, 1, UNLIKE},
            {0, 0, 3, 0, 1, UNLIKE}, {0, 0, 2, 0, 1, UNLIKE}, {2, 0, 1, 0, 1, UNLIKE}, {0, -1, 1, 0, 1, NO_PLACE},
            {0, 0, 1, -1, 1, NO_PLACE}, {0, 0, 1, 0, -1, NO_PLACE}, {0, 0, 1, 0, 4, NO_PLACE},
            {0, 3, 1, 0, 1, NO_PLACE}, {0, 0, 1, 3, 1, NO_PLACE}, {0, 1, 0, 2, 2, NO_PLACE}, {0, 0, 5, 0, 1, NO_PLACE}};
        for (int[] b : shifts) {
            ask("43 shift from " + b[0] + " at " + b[1] + " to " + b[2] + " at " + b[3] + ", " + b[4], b[5],
                x -> x.shift(b[0], b[1], b[2], b[3], b[4]));
        }
        int[][] taken = {{-1, 0, BAD}, {6, 0, BAD}, {4, 0, NOTHING}, {0, 0, UNLIKE}, {3, 1, UNLIKE}, {3, 5, UNLIKE}};
        for (int[] b : taken) {
            ask("44 taken(" + b[0] + ", " + b[1] + ")", b[2], x -> x.taken(b[0], b[1]));
        }
    }

    private static void refusedWithoutCall() {
        ask("28 say", STATE, x -> x.say(0, 0));
        ask("28 say the sixth", STATE, x -> x.say(5, 1));
        ask("28 say below", BAD, x -> x.say(-1, 0));
        ask("28 by above", BAD, x -> x.say(0, 2));
        ask("29 noted", STATE, x -> x.noted(0));
        ask("29 noted below", BAD, x -> x.noted(-1));
        ask("30 hang", STATE, x -> x.hang());
    }

    private static void refusedInCall() {
        int[][] bad = {{-1, 0}, {3, 0}, {6, 1}, {0, -1}, {0, 2}, {MIN, 0}, {MAX, 0}, {0, MIN}, {0, MAX}};
        for (int[] b : bad) {
            ask("28 say(" + b[0] + ", " + b[1] + ")", BAD, x -> x.say(b[0], b[1]));
        }
        for (int b : new int[] {-1, 3, 6, MIN, MAX}) {
            ask("29 noted(" + b + ")", BAD, x -> x.noted(b));
        }
        ask("29 nothing yet", NOT, x -> x.noted(1));
        ask("27 one is on", STATE, x -> x.call(0, 9));
        ask("27 the same is on", STATE, x -> x.call(1, 5));
    }

    /** Calls that tell something and change nothing. */
    private static void telling() {
        ask("3 the same number", 3, x -> x.mend(0, 4, 3));
        ask("4 of", 5, x -> x.of(3, 0));
        ask("5 letter", 6, x -> x.letter(3, 5));
        ask("8 heard", 4, x -> x.heard(102, 9, 0));
        ask("9 likely", 1, x -> x.likely(1, 1, 0) < 0 ? 0 : 1);
        ask("10 likeliest", 1, x -> x.likeliest(1));
        ask("11 sure", 0, x -> x.sure(1, 11));
        ask("12 check", 1, x -> x.check(1, 107, 0));
        ask("13 again", 0, x -> x.again(1, 2));
        ask("14 right", 1, x -> x.right(2, 0, 0) > 0 ? 1 : 0);
        ask("15 time", 6, x -> x.time(3, 0));
        ask("16 leastSaid", 0, x -> x.leastSaid(0, 0));
        ask("17 worst", 0, x -> x.worst(0));
        ask("18 confused", 1, x -> x.confused(1, 0) > 0 ? 1 : 0);
        ask("19 nearest", 1, x -> x.nearest(0));
        ask("20 pairs", 1, x -> x.pairs());
        ask("21 sums", 0, x -> x.sums(1, 44, 0));
        ask("22 stop", 0, x -> x.stop(0, 99));
        ask("23 who", 3, x -> x.who(1));
        ask("24 odd", 0, x -> x.odd(1));
        ask("25 fits", NOT, x -> x.fits(1, 0));
        ask("26 drawn", 1, x -> x.drawn(9, 30, 1) < 0 ? 0 : 1);
        ask("39 the same spelling", 1, x -> x.keep(3, 1));
        ask("43 shift none", 0, x -> x.shift(0, 3, 1, 3, 0));
        ask("43 shift to itself", 3, x -> x.shift(0, 0, 0, 0, 3));
        ask("37 the same act", 16, x -> x.act(0, 3, 5));
    }

    private static void refusedWhenFull() {
        ask("2 an eleventh name", FULL, x -> x.name(0, 1));
        ask("2 no such name, ahead of that", BAD, x -> x.name(0, 3));
        ask("2 nothing, ahead of that", NOTHING, x -> x.name(1, 1));
        ask("2 shorts, ahead of that", UNLIKE, x -> x.name(2, 1));
        ask("2 a spelling, ahead of that", UNLIKE, x -> x.name(3, 1));
        ask("2 no letters, ahead of that", BAD, x -> x.name(0, 0));
        ask("2 no shelf, ahead of that", BAD, x -> x.name(6, 1));
        ask("6 the 121st byte", FULL, x -> x.feed('1'));
        ask("6 no byte, ahead of that", BAD, x -> x.feed(256));
        ask("36 a fifty-first body", FULL, x -> x.body(1));
        ask("36 no kind, ahead of that", BAD, x -> x.body(8));
    }

    private static void refusedWhenNew() {
        ask("20 pairs", NOT, x -> x.pairs());
        ask("33 back", STATE, x -> x.back());
        ask("34 undo", STATE, x -> x.undo());
        ask("35 redo", STATE, x -> x.redo());
        ask("37 no such spelling", 0, x -> x.act(0, 0, 5));
        ask("37 no such act", 0, x -> x.act(0, 4, 5));
        ask("7 a tape of none", -100, x -> x.law());
        ask("39 nothing there already", 1, x -> x.keep(0, -1));
    }
}
