/**
 * Part 5 of the document's Terms: spellings and their acts, shelves, refusals. Each sentence that names a bound has
 * a test of its own, headed by that sentence.
 */
public final class ShelfBoundsTests extends Answers {
    /** By KIND: the KIND above. */
    private static final int[] ABOVE = {-1, 0, 0, 2, 1, 3, 0, 4};
    private static final int[] WILD = {Integer.MIN_VALUE, -2, -1, Integer.MAX_VALUE};

    public static void main(String[] args) {
        fiftyBodies();
        eightKinds();
        fourActs();
        actsWrap();
        noTraceThen();
        first24();
        sixShelves();
        fiveSorts();
        sixtyElements();
        zeroAtFirst();
        lowestBits();
        booleans();
        nothingIsThere();
        anotherKind();
        placeThatIsNotThere();
        sizeBelow0();
        keptAlone();
        nameFromARow();
        shiftAsBefore();
        shiftPlaces();
        takenOrUnderIt();
        countByNumber();
        tell();
    }

    /** "BODIES 0 .. 49" */
    private static void fiftyBodies() {
        AsInBertha x = new AsInBertha();
        due("none yet", BAD, x.keep(0, 0));
        for (int i = 0; i < 50; i++) {
            due("body " + i, i, x.body(i % 8));
            due("how many", i + 1, x.count(3));
        }
        due("a fifty-first", FULL, x.body(0));
        due("no kind, ahead of that", BAD, x.body(8));
        due("fifty", 50, x.count(3));
        due("the last on a shelf", 1, x.keep(0, 49));
        due("its kind", 1, x.taken(0, 1));
        due("none behind it", BAD, x.keep(0, 50));
        due("the shelf as it was", 1, x.taken(0, 1));
        due("the last says by its number", 7 + 49 + 3, x.act(49, 0, 7));
        due("none behind it", 0, x.act(50, 0, 7));
        due("none below", 0, x.act(-1, 0, 7));
    }

    /** "KINDS: 0 SPELLING; 1 PLAIN under SPELLING; .. 7 SMITH under FIGURE" */
    private static void eightKinds() {
        AsInBertha x = new AsInBertha();
        for (int none : new int[] {-1, 8, Integer.MIN_VALUE, Integer.MAX_VALUE}) {
            due("no kind " + none, BAD, x.body(none));
        }
        due("none kept", 0, x.count(3));
        due("the first kind", 0, x.body(0));
        due("the last kind", 1, x.body(7));
        x.keep(0, 1);
        due("no kind below", BAD, x.taken(0, -1));
        due("no kind above", BAD, x.taken(0, 8));
        due("taken for the first kind", 7, x.taken(0, 0));
        due("taken for the last kind", 7, x.taken(0, 7));
    }

    /** "ACTS with x .. : 0 says, 1 hears, 2 asks, 3 tells" */
    private static void fourActs() {
        AsInBertha x = new AsInBertha();
        x.body(0);
        due("no act below", 0, x.act(0, -1, 5));
        due("no act above", 0, x.act(0, 4, 5));
        due("wild", 0, x.act(0, Integer.MIN_VALUE, 5));
        due("wild", 0, x.act(0, Integer.MAX_VALUE, 5));
        due("the first act", 5, x.act(0, 0, 5));
        due("the last act", 9, x.act(0, 3, 5));
    }

    /** "x (an int that wraps)" */
    private static void actsWrap() {
        AsInBertha x = new AsInBertha();
        for (int kind = 0; kind < 8; kind++) {
            x.body(kind);
        }
        int max = Integer.MAX_VALUE;
        int min = Integer.MIN_VALUE;
        due("x + n", max, x.act(0, 0, max));
        due("x + n + 3", min + 3, x.act(1, 0, max));
        due("x + n + 3", max, x.act(1, 0, max - 4));
        due("times 2", -2, x.act(0, 1, max));
        due("times 2", 0, x.act(0, 1, min));
        due("- of the least: (min - 2 + 2) * 2", 0, x.act(2, 1, min - 2));
        // -((0x40000000 - 2 + 2) * 2) is the least of all
        due("- of the least", min, x.act(2, 1, (1 << 30) - 2));
        // x + 1 wraps ahead: -((min + 3) * 2)
        due("x + 1", -6, x.act(3, 1, max));
        due("times 3", (max ^ 3) * 3, x.act(3, 2, max));
        due("x ^ n less what wraps", (min ^ 4) - 9, x.act(4, 2, min));
        due("^ 5 of what wraps", (-((min + 5) * 2) - 12) ^ 5, x.act(5, 3, max));
        due("twice what wraps", (min + 5) * 2, x.act(6, 0, max));
        due("less 1 of what wraps", (min + 7 + 2) * 2 + (2 ^ 7) - 12 - ((1 ^ 7) - 12) - 1, x.act(7, 3, max));
    }

    /** "0, and no TRACE then: no such SPELLING, ACT" (of promise 37) */
    private static void noTraceThen() {
        int[][] none = {{1, 0}, {-1, 0}, {50, 0}, {0, 4}, {0, -1}, {1, 4}};
        for (int[] n : none) {
            AsInBertha x = new AsInBertha();
            x.body(7);
            x.act(0, 3, 5);
            due("a trace", 81, x.trace(0));
            due("of all", 14, x.count(4));
            due("no such one", 0, x.act(n[0], n[1], 5));
            due("no trace then", BAD, x.trace(0));
            due("none ran", 0, x.count(4));
            due("but the spelling stays", 1, x.count(3));
        }
    }

    /** "numbers of the bodies that ran in the latest act(), as they began; the first 24 are kept" */
    private static void first24() {
        AsInBertha x = new AsInBertha();
        due("none at first", BAD, x.trace(0));
        x.body(7);
        x.act(0, 3, 5);
        int[] ran = {81, 2, 80, 10, 20, 1, 50, 11, 20, 1, 50, 11, 20, 1};
        for (int i = 0; i < 30; i++) {
            due("trace " + i, i < 14 ? ran[i] : BAD, x.trace(i));
        }
        for (int none : WILD) {
            due("trace " + none, BAD, x.trace(none));
        }
        x.act(0, 0, 5);
        due("the latest alone", 20, x.trace(0));
        due("the latest alone", 1, x.trace(1));
        due("the latest alone", BAD, x.trace(2));
        due("two ran", 2, x.count(4));
    }

    /** "SHELVES 0 .. 5 each hold nothing (at first), a SPELLING (a BODY), or a ROW" */
    private static void sixShelves() {
        AsInBertha x = new AsInBertha();
        x.body(3);
        for (int shelf = 0; shelf < 6; shelf++) {
            due("nothing at first", NOTHING, x.taken(shelf, 0));
            due("a spelling", 1, x.keep(shelf, 0));
            due("it is there", 3, x.taken(shelf, 3));
            due("a row", 1, x.row(shelf, 0, 1));
            due("it is there", 0, x.element(shelf, 0));
            due("no spelling now", UNLIKE, x.taken(shelf, 3));
            due("nothing", 1, x.keep(shelf, -1));
            due("nothing now", NOTHING, x.put(shelf, 0, 1));
        }
        x.row(0, 0, 1);
        for (int none : new int[] {-1, 6, Integer.MIN_VALUE, Integer.MAX_VALUE}) {
            due("name " + none, BAD, x.name(none, 1));
            due("likely " + none, NONE, x.likely(none, 0, 0));
            due("likeliest " + none, BAD, x.likeliest(none));
            due("sure " + none, BAD, x.sure(none, 1));
            due("check " + none, NONE, x.check(none, 0, 0));
            due("again " + none, NONE, x.again(none, 0));
            due("sums " + none, NONE, x.sums(none, 0, 0));
            due("who " + none, BAD, x.who(none));
            due("odd " + none, BAD, x.odd(none));
            due("fits " + none, BAD, x.fits(none, 0));
            due("keep " + none, BAD, x.keep(none, -1));
            due("keep " + none, BAD, x.keep(none, 0));
            due("row " + none, BAD, x.row(none, 0, 1));
            due("row ahead of a size " + none, BAD, x.row(none, 0, -1));
            due("put " + none, BAD, x.put(none, 0, 1));
            due("element " + none, NONE, x.element(none, 0));
            due("shift from " + none, BAD, x.shift(none, 0, 0, 0, 1));
            due("shift to " + none, BAD, x.shift(0, 0, none, 0, 1));
            due("shift ahead of nothing " + none, BAD, x.shift(5, 0, none, 0, 1));
            due("taken " + none, BAD, x.taken(none, 0));
        }
    }

    /** "of 0 bytes, 1 shorts, 2 ints, 3 longs, 4 booleans" */
    private static void fiveSorts() {
        AsInBertha x = new AsInBertha();
        for (int none : new int[] {-1, 5, Integer.MIN_VALUE, Integer.MAX_VALUE}) {
            due("no sort " + none, BAD, x.row(0, none, 1));
            due("no sort, ahead of a size", BAD, x.row(0, none, -1));
            due("nothing there", NOTHING, x.put(0, 0, 1));
        }
        for (int sort = 0; sort < 5; sort++) {
            due("sort " + sort, 1, x.row(0, sort, 1));
            due("bytes alone are heard", sort == 0 ? NOT : UNLIKE, x.likeliest(0));
        }
    }

    /** "of 0 .. 60 elements" */
    private static void sixtyElements() {
        for (int sort = 0; sort < 5; sort++) {
            AsInBertha x = new AsInBertha();
            x.row(0, sort, 1);
            x.put(0, 0, 1);
            due("61", BAD, x.row(0, sort, 61));
            due("wild", BAD, x.row(0, sort, Integer.MAX_VALUE));
            due("-1", NO_SIZE, x.row(0, sort, -1));
            due("wild", NO_SIZE, x.row(0, sort, Integer.MIN_VALUE));
            due("the row as it was", 1, x.element(0, 0));
            due("and as long", NO_PLACE, x.put(0, 1, 1));
            due("none", 1, x.row(0, sort, 0));
            due("none there", NO_PLACE, x.put(0, 0, 1));
            due("none there", NONE, x.element(0, 0));
            due("sixty", 1, x.row(0, sort, 60));
            due("the last", 1, x.put(0, 59, 1));
            due("the last", 1, x.element(0, 59));
            due("none behind it", NO_PLACE, x.put(0, 60, 1));
            due("none behind it", NONE, x.element(0, 60));
        }
    }

    /** "0 at first (false)" */
    private static void zeroAtFirst() {
        AsInBertha x = new AsInBertha();
        for (int sort = 0; sort < 5; sort++) {
            x.row(0, sort, 7);
            for (int i = 0; i < 7; i++) {
                due("at first", 0, x.element(0, i));
                x.put(0, i, 1);
            }
            x.row(0, sort, 3);
            x.row(0, sort, 7);
            for (int i = 0; i < 7; i++) {
                due("at first again", 0, x.element(0, i));
            }
        }
    }

    /** "what is put in keeps its lowest bits" */
    private static void lowestBits() {
        int[] bits = {8, 16, 32};
        for (int sort = 0; sort < 3; sort++) {
            AsInBertha x = new AsInBertha();
            x.row(0, sort, 1);
            long half = 1L << bits[sort] - 1;
            long[][] kept = {{0, 0}, {1, 1}, {-1, -1}, {half - 1, half - 1}, {half, -half}, {half + 1, 1 - half},
                {-half, -half}, {-half - 1, half - 1}, {2 * half - 1, -1}, {2 * half, 0}, {2 * half + 1, 1},
                {-2 * half, 0}, {Long.MAX_VALUE, -1}, {Long.MIN_VALUE, 0}};
            for (long[] k : kept) {
                due("put " + k[0], 1, x.put(0, 0, k[0]));
                due("sort " + sort + " keeps of " + k[0], k[1], x.element(0, 0));
            }
        }
        AsInBertha x = new AsInBertha();
        x.row(0, 3, 1);
        for (long v : new long[] {0, 1, -1, 1L << 32, Long.MAX_VALUE, Long.MIN_VALUE + 1}) {
            x.put(0, 0, v);
            due("a long keeps all", v, x.element(0, 0));
        }
    }

    /** "a boolean: whether it is not 0; 1 or 0" */
    private static void booleans() {
        AsInBertha x = new AsInBertha();
        x.row(0, 4, 1);
        for (long v : new long[] {1, 2, -1, 256, 1L << 32, Long.MIN_VALUE, Long.MAX_VALUE}) {
            x.put(0, 0, v);
            due("not 0: " + v, 1, x.element(0, 0));
            x.put(0, 0, 0);
            due("0", 0, x.element(0, 0));
        }
    }

    /** "-11 nothing is there where something is wanted" */
    private static void nothingIsThere() {
        AsInBertha x = new AsInBertha();
        named(x, 1);
        x.row(0, 0, 1);
        due("name", NOTHING, x.name(1, 1));
        due("likely", NONE, x.likely(1, 0, 0));
        due("likeliest", NOTHING, x.likeliest(1));
        due("sure", NOTHING, x.sure(1, 0));
        due("check", NONE, x.check(1, 1, 0));
        due("again", NONE, x.again(1, 0));
        due("sums", NONE, x.sums(1, 0, 0));
        due("who", NOTHING, x.who(1));
        due("odd", NOTHING, x.odd(1));
        due("fits", NOTHING, x.fits(1, 0));
        due("put", NOTHING, x.put(1, 0, 1));
        due("put, at no place", NOTHING, x.put(1, -1, 1));
        due("element", NONE, x.element(1, 0));
        due("shift from", NOTHING, x.shift(1, 0, 0, 0, 1));
        due("shift to", NOTHING, x.shift(0, 0, 1, 0, 1));
        due("shift both", NOTHING, x.shift(1, 0, 2, 0, 1));
        due("shift within", NOTHING, x.shift(1, 0, 1, 0, 0));
        due("taken", NOTHING, x.taken(1, 0));
        due("bad ahead of that: in", BAD, x.name(1, 0));
        due("bad ahead of that: in", BAD, x.name(1, 7));
        due("bad ahead of that: x", BAD, x.sure(1, 12));
        due("bad ahead of that: a name", BAD, x.fits(1, 1));
        due("bad ahead of that: a kind", BAD, x.taken(1, 8));
    }

    /** "-12 it is of another kind" */
    private static void anotherKind() {
        AsInBertha x = new AsInBertha();
        named(x, 1);
        x.body(0);
        x.keep(1, 0);
        for (int sort = 0; sort < 6; sort++) {
            // in the end a spelling
            int shelf = sort < 5 ? 0 : 1;
            x.row(0, Math.min(sort, 4), 2);
            x.put(0, 0, 1);
            boolean fine = sort == 0;
            due("name by " + sort, fine ? 1 : UNLIKE, x.name(shelf, 1));
            due("likely by " + sort, fine ? NOT : NONE, x.likely(shelf, 0, 0));
            due("likeliest by " + sort, fine ? NOT : UNLIKE, x.likeliest(shelf));
            due("sure by " + sort, fine ? NOT : UNLIKE, x.sure(shelf, 0));
            due("check by " + sort, fine ? NOT : NONE, x.check(shelf, 1, 0));
            due("again by " + sort, fine ? NOT : NONE, x.again(shelf, 0));
            due("sums by " + sort, fine ? 1 : NONE, x.sums(shelf, 1, 0));
            due("who by " + sort, fine ? 0 : UNLIKE, x.who(shelf));
            due("odd by " + sort, fine ? NOT : UNLIKE, x.odd(shelf));
            due("fits by " + sort, fine ? 1 : UNLIKE, x.fits(shelf, 0));
            due("bad ahead of that", BAD, x.name(shelf, 0));
            due("bad ahead of that", BAD, x.sure(shelf, -1));
            due("bad ahead of that", BAD, x.fits(shelf, 2));
        }
        due("put into a spelling", UNLIKE, x.put(1, 0, 1));
        due("put into a spelling, at no place", UNLIKE, x.put(1, -1, 1));
        due("element of a spelling", NONE, x.element(1, 0));
        due("shift from a spelling", UNLIKE, x.shift(1, 0, 0, 0, 1));
        due("shift to a spelling", UNLIKE, x.shift(0, 0, 1, 0, 1));
        due("nothing ahead of that", NOTHING, x.shift(1, 0, 2, 0, 1));
        due("nothing ahead of that", NOTHING, x.shift(2, 0, 1, 0, 1));
        due("a row taken for a spelling", UNLIKE, x.taken(0, 0));
        for (int sort = 0; sort < 5; sort++) {
            for (int other = 0; other < 5; other++) {
                x.row(2, sort, 2);
                x.row(3, other, 2);
                due("shift " + sort + " to " + other, sort == other ? 2 : UNLIKE, x.shift(2, 0, 3, 0, 2));
                due("ahead of a place", sort == other ? NO_PLACE : UNLIKE, x.shift(2, 9, 3, 0, 2));
            }
        }
    }

    /** "-13 a place that is not there" */
    private static void placeThatIsNotThere() {
        AsInBertha x = new AsInBertha();
        x.row(0, 2, 3);
        for (int none : new int[] {-1, 3, 59, 60, Integer.MIN_VALUE, Integer.MAX_VALUE}) {
            due("put at " + none, NO_PLACE, x.put(0, none, 1));
            due("element at " + none, NONE, x.element(0, none));
        }
        for (int i = 0; i < 3; i++) {
            due("nothing was put", 0, x.element(0, i));
            due("put at " + i, 1, x.put(0, i, 5 + i));
            due("element at " + i, 5 + i, x.element(0, i));
        }
    }

    /** "-14 a size below 0" */
    private static void sizeBelow0() {
        AsInBertha x = new AsInBertha();
        due("below", NO_SIZE, x.row(0, 0, -1));
        due("wild", NO_SIZE, x.row(0, 0, Integer.MIN_VALUE));
        due("still nothing there", NOTHING, x.likeliest(0));
        x.body(4);
        x.keep(0, 0);
        due("below", NO_SIZE, x.row(0, 4, -1));
        due("the spelling stays", 4, x.taken(0, 4));
        due("no sort ahead of that", BAD, x.row(0, 5, -1));
        due("no shelf ahead of that", BAD, x.row(6, 0, -1));
    }

    /** "A SHELF holds nothing (body -1), or a SPELLING: 1. BAD." (of promise 39) */
    private static void keptAlone() {
        AsInBertha x = new AsInBertha();
        x.row(0, 0, 2);
        x.put(0, 1, 7);
        due("no spelling yet", BAD, x.keep(0, 0));
        due("below nothing", BAD, x.keep(0, -2));
        due("wild", BAD, x.keep(0, Integer.MIN_VALUE));
        due("wild", BAD, x.keep(0, Integer.MAX_VALUE));
        due("the row as it was", 7, x.element(0, 1));
        x.body(6);
        due("a spelling", 1, x.keep(0, 0));
        due("none behind it", BAD, x.keep(0, 1));
        due("the spelling as it was", 6, x.taken(0, 6));
        due("nothing", 1, x.keep(0, -1));
        due("nothing there", NOTHING, x.taken(0, 6));
        due("nothing once more", 1, x.keep(0, -1));
    }

    /** "A NAME FROM A ROW of bytes, from place i on: n (1 .. 6) LETTERS; where one lacks, or is none, there is no such NAME." */
    private static void nameFromARow() {
        AsInBertha x = new AsInBertha();
        x.row(0, 0, 60);
        x.put(0, 0, 11);
        for (int i = 54; i < 60; i++) {
            x.put(0, i, i - 50);
        }
        due("from the first", 0, x.name(0, 6));
        due("to the last", 1, x.name(0, 546));
        due("the last", 9, x.letter(1, 5));
        due("the last alone", 2, x.name(0, 591));
        due("one lacks", BAD, x.name(0, 556));
        due("one lacks", BAD, x.name(0, 592));
        due("all lack", BAD, x.name(0, 601));
        due("wild", BAD, x.name(0, 2147483641));
        due("wild", BAD, x.name(0, 2147483646));
        due("below", BAD, x.name(0, -1));
        due("below", BAD, x.name(0, -9));
        due("wild", BAD, x.name(0, Integer.MIN_VALUE));
        for (int none : new int[] {12, -1, 127, -128}) {
            x.put(0, 3, none);
            due("ahead of one that is none", x.count(0), x.name(0, 3));
            int names = x.count(0);
            due("with it at its end", BAD, x.name(0, 4));
            due("with it at its start", BAD, x.name(0, 31));
            due("with it inside", BAD, x.name(0, 26));
            due("no names by that", names, x.count(0));
        }
        due("behind one that is none", 7, x.name(0, 46));
        due("no bytes", 1, x.row(0, 0, 0));
        due("from a row of none", BAD, x.name(0, 1));
    }

    private static AsInBertha oneToFive(int sort) {
        AsInBertha x = new AsInBertha();
        x.row(0, sort, 5);
        x.row(1, sort, 5);
        for (int i = 0; i < 5; i++) {
            x.put(0, i, 1 + i);
            x.put(1, i, 7);
        }
        return x;
    }

    private static void holds(String what, AsInBertha x, int shelf, int... elements) {
        for (int i = 0; i < elements.length; i++) {
            due(what + " at " + i, elements[i], x.element(shelf, i));
        }
    }

    /** "n elements .. come to another one (or the same) from j on, as they all were before: n" */
    private static void shiftAsBefore() {
        AsInBertha on = oneToFive(0);
        due("on by one", 4, on.shift(0, 0, 0, 1, 4));
        holds("on by one", on, 0, 1, 1, 2, 3, 4);
        AsInBertha back = oneToFive(1);
        due("back by one", 4, back.shift(0, 1, 0, 0, 4));
        holds("back by one", back, 0, 2, 3, 4, 5, 5);
        AsInBertha still = oneToFive(2);
        due("where it is", 5, still.shift(0, 0, 0, 0, 5));
        holds("where it is", still, 0, 1, 2, 3, 4, 5);
        AsInBertha other = oneToFive(3);
        due("to another", 3, other.shift(0, 2, 1, 1, 3));
        holds("to another", other, 1, 7, 3, 4, 5, 7);
        holds("from", other, 0, 1, 2, 3, 4, 5);
        due("all to another", 5, other.shift(0, 0, 1, 0, 5));
        holds("all to another", other, 1, 1, 2, 3, 4, 5);
    }

    /** "-13" (of promise 43): both sides of each place, and none at all */
    private static void shiftPlaces() {
        int max = Integer.MAX_VALUE;
        int min = Integer.MIN_VALUE;
        int[][] none = {{0, 0, 6}, {1, 0, 5}, {0, 1, 5}, {5, 0, 1}, {0, 5, 1}, {6, 0, 0}, {0, 6, 0}, {-1, 0, 1},
            {0, -1, 1}, {-1, 0, 0}, {0, -1, 0}, {0, 0, -1}, {5, 5, -1}, {0, 0, min}, {0, 0, max}, {max, 0, 1},
            {0, max, 1}, {max, 0, max}, {min, 0, 1}, {0, min, 1}, {1, 1, max}, {max, max, 0}, {3, 0, 3}, {0, 3, 3}};
        for (int[] p : none) {
            AsInBertha x = oneToFive(2);
            due("from " + p[0] + " to " + p[1] + ", " + p[2], NO_PLACE, x.shift(0, p[0], 1, p[1], p[2]));
            holds("from", x, 0, 1, 2, 3, 4, 5);
            holds("to", x, 1, 7, 7, 7, 7, 7);
            due("within, from " + p[0] + " to " + p[1] + ", " + p[2], NO_PLACE, x.shift(0, p[0], 0, p[1], p[2]));
            holds("within", x, 0, 1, 2, 3, 4, 5);
        }
        AsInBertha x = oneToFive(2);
        due("none from the first", 0, x.shift(0, 0, 1, 0, 0));
        due("none from behind the last", 0, x.shift(0, 5, 1, 5, 0));
        holds("to", x, 1, 7, 7, 7, 7, 7);
        due("the last to the first", 1, x.shift(0, 4, 1, 0, 1));
        due("the first to the last", 1, x.shift(0, 0, 1, 4, 1));
        holds("to", x, 1, 5, 7, 7, 7, 1);
        x.row(2, 2, 3);
        due("to a shorter one", 3, x.shift(0, 2, 2, 0, 3));
        due("too many for it", NO_PLACE, x.shift(0, 0, 2, 0, 4));
        due("from a shorter one", 3, x.shift(2, 0, 0, 2, 3));
        due("it has not as many", NO_PLACE, x.shift(2, 0, 0, 0, 4));
        x.row(3, 2, 0);
        due("none from a row of none", 0, x.shift(3, 0, 0, 0, 0));
        due("one from a row of none", NO_PLACE, x.shift(3, 0, 0, 0, 1));
        due("one to a row of none", NO_PLACE, x.shift(0, 0, 3, 0, 1));
    }

    /** "taken for a SPELLING of KIND k (0 .. 7), or under it: its KIND .. -12" (of promise 44) */
    private static void takenOrUnderIt() {
        AsInBertha x = new AsInBertha();
        for (int kind = 0; kind < 8; kind++) {
            x.body(kind);
            x.keep(3, kind);
            for (int k = 0; k < 8; k++) {
                int at = kind;
                while (at > 0 && at != k) {
                    at = ABOVE[at];
                }
                due("kind " + kind + " for " + k, at == k ? kind : UNLIKE, x.taken(3, k));
            }
        }
    }

    /** "How many: 0 NAMES, .. 4 bodies that ran .. BAD." (of promise 45) */
    private static void countByNumber() {
        AsInBertha x = new AsInBertha();
        for (int none : new int[] {-1, 5, Integer.MIN_VALUE, Integer.MAX_VALUE}) {
            due("no count " + none, BAD, x.count(none));
        }
        for (int what = 0; what < 5; what++) {
            due("none of " + what, 0, x.count(what));
        }
        named(x, 1);
        named(x, 1);
        fed(x, "abc");
        for (int i = 1; i <= 4; i++) {
            x.mend(0, 0, 1 + i);
        }
        for (int i = 0; i < 5; i++) {
            x.body(0);
        }
        x.act(0, 3, 0);
        x.act(0, 1, 0);
        int[] counts = {2, 3, 4, 5, 2};
        for (int what = 0; what < 5; what++) {
            due("count " + what, counts[what], x.count(what));
        }
    }
}
