/**
 * Part 4 of the document's Terms: what is DRAWN, calls in deed, changes, an image. Each sentence that names a
 * bound has a test of its own, headed by that sentence.
 */
public final class DeedBoundsTests extends Answers {
    private static final String HALVES = "s=h?1;h=(s+1)%12";
    private static final String NEVER_RIGHT = "h=(s+1)%12";
    /** By k which LETTER is heard. */
    private static final String AS_OFTEN = "h=(s+k)%12";
    private static final int[] SEEDS = {0, 1, -1, 7, Integer.MAX_VALUE, Integer.MIN_VALUE, 1103515245, -12345};

    public static void main(String[] args) {
        oneToThirtyTimes();
        seedsWrap();
        moreThanDraw();
        noDrawIfAllAre0();
        drawAheadOfEach();
        callOfAName();
        placesOfTheName();
        belowClear();
        saidBefore();
        nineAtMost();
        latestNoted();
        allNotedAllRight();
        ledByNumber();
        noneIsOn();
        sameNumberIsNone();
        latestFirst();
        asLongAsNoOtherCame();
        refusedIsNoChange();
        fortyAtMost();
        deedsAreNone();
        imageKeepsTheCall();
        imageKeepsWhatLedTells();
        noImage();
        imageOfNoCall();
        imageAnew();
        tell();
    }

    private static AsInBertha line(String law, int... name) {
        AsInBertha x = new AsInBertha();
        named(x, name);
        lawOf(x, law);
        return x;
    }

    /** What is heard of a LETTER by HALVES: the draws are told by 0, 1 in the order of the LETTERS. */
    private static int half(int z, int said) {
        boolean first = (z >>> 8) % 2 == 0;
        return said == 11 ? first ? 0 : 11 : first ? said : said + 1;
    }

    /** "a NAME is said n times (1 .. 30)" */
    private static void oneToThirtyTimes() {
        AsInBertha x = line(NEVER_RIGHT, 5, 6, 7);
        due("never", BAD, x.drawn(1, 0, 1));
        due("once", 3, x.drawn(1, 1, 1));
        due("once, none right", 0, x.drawn(1, 1, 0));
        due("thirty times", 90, x.drawn(1, 30, 1));
        due("thirty-one times", BAD, x.drawn(1, 31, 1));
        due("ninety-nine times", BAD, x.drawn(1, 99, 1));
        due("of no such name", BAD, x.drawn(1, 101, 1));
        due("of none below", BAD, x.drawn(1, -1, 1));
        due("of none below", BAD, x.drawn(1, -99, 1));
        due("of none below", BAD, x.drawn(1, -100, 1));
        due("wild", BAD, x.drawn(1, Integer.MAX_VALUE, 1));
        due("wild", BAD, x.drawn(1, Integer.MIN_VALUE, 1));
        due("what below", BAD, x.drawn(1, 1, -1));
        due("what above", BAD, x.drawn(1, 1, 2));
        lawOf(x, "e");
        due("always right", 30, x.drawn(1, 30, 0));
        due("never wrong", 0, x.drawn(1, 30, 1));
        for (int i = 1; i < 10; i++) {
            named(x, 5);
        }
        due("the tenth name", 30, x.drawn(1, 930, 0));
        due("the tenth name, too often", BAD, x.drawn(1, 931, 0));
        AsInBertha y = line("s%2=0?e;" + NEVER_RIGHT, 0);
        for (int i = 1; i < 10; i++) {
            named(y, i);
        }
        for (int i = 0; i < 10; i++) {
            due("name " + i + " once", i % 2 == 0 ? 1 : 0, y.drawn(1, 100 * i + 1, 0));
            due("name " + i + " thirty times", i % 2 == 0 ? 30 : 0, y.drawn(1, 100 * i + 30, 0));
        }
    }

    /** "z = z * 1103515245 + 12345 (an int; SEED at first) ahead of each LETTER" */
    private static void seedsWrap() {
        AsInBertha x = line(HALVES, 5, 11, 0);
        int[] said = {5, 11, 0};
        for (int seed : SEEDS) {
            int z = seed;
            int right = 0;
            int wrong = 0;
            for (int i = 0; i < 30; i++) {
                int errors = 0;
                for (int letter : said) {
                    z = next(z);
                    errors += half(z, letter) == letter ? 0 : 1;
                }
                right += errors == 0 ? 1 : 0;
                wrong += errors;
            }
            due("right by seed " + seed, right, x.drawn(seed, 30, 0));
            due("wrong by seed " + seed, wrong, x.drawn(seed, 30, 1));
        }
    }

    /** "the first LETTER h at which WEIGHTS 0 to h are together more than that" */
    private static void moreThanDraw() {
        // 0: 3, 4: 1, 11: 2
        AsInBertha x = line("h=0?3;h=4?1;h=11?2", 4);
        int[] heard = {0, 0, 0, 4, 11, 11};
        boolean[] seen = new boolean[6];
        x.call(0, 99);
        int z = 99;
        for (int i = 0; i < 200; i++) {
            z = next(z);
            seen[(z >>> 8) % 6] = true;
            due("draw " + (z >>> 8) % 6, heard[(z >>> 8) % 6], x.say(0, 0));
        }
        for (boolean each : seen) {
            due("each draw was seen", 1, each ? 1 : 0);
        }
    }

    /** "(no draw, if all are 0)" */
    private static void noDrawIfAllAre0() {
        AsInBertha x = line("s=5?0;" + HALVES, 5, 6, 5);
        for (int seed : SEEDS) {
            int z = seed;
            int wrong = 0;
            for (int i = 0; i < 30; i++) {
                z = next(z);
                wrong += half(z, 6) == 6 ? 0 : 1;
            }
            due("5 is heard right", wrong, x.drawn(seed, 30, 1));
            due("5 is heard right", 30 - wrong, x.drawn(seed, 30, 0));
        }
        lawOf(x, "k=0&s=5?0;" + HALVES);
        due("all are 0 by k 0 alone", x.drawn(7, 30, 1), line("s=5?0;" + HALVES, 5, 6, 5).drawn(7, 30, 1));
        lawOf(x, "s=5?0;" + HALVES);
        x.mend(5, 3, 0);
        x.call(0, 8);
        int z = 8;
        for (int i = 0; i < 30; i++) {
            due("plain, no draw", 5, x.say(0, 0));
            z = next(z);
            due("plain, a draw", half(z, 6), x.say(1, 0));
            z = next(z);
            due("by the word, its own draw alone", 5, x.say(2, 1));
        }
    }

    /** "ahead of each LETTER": one that is surely right by its WEIGHTS takes a draw, as these are not all 0. */
    private static void drawAheadOfEach() {
        AsInBertha x = new AsInBertha();
        named(x, 5, 1);
        x.mend(102, 1, 4);
        // 36 for 1, 12 for 2
        int z = 3;
        int wrong = 0;
        for (int i = 0; i < 30; i++) {
            z = next(next(z));
            wrong += (z >>> 8) % 48 < 36 ? 0 : 1;
        }
        due("two draws each time", wrong, x.drawn(3, 30, 1));
        lawOf(x, "s=5?k=0&e;e*9+a*3");
        due("even by a WEIGHT of 1, and of k 0 alone", wrong, x.drawn(3, 30, 1));
        lawOf(x, "e*9+a*3");
        x.call(0, 3);
        z = 3;
        for (int i = 0; i < 30; i++) {
            due("surely right", 5, x.say(0, 0));
            x.hang();
            x.call(0, z);
            x.say(0, 0);
            z = next(next(z));
            due("by the second draw", (z >>> 8) % 48 < 36 ? 1 : 2, x.say(1, 0));
        }
    }

    /** "CALL of a NAME by a SEED" */
    private static void callOfAName() {
        AsInBertha x = line(HALVES, 5);
        named(x, 1, 2, 3, 4, 5, 6);
        due("no such name", BAD, x.call(2, 0));
        due("none below", BAD, x.call(-1, 0));
        due("none is on", STATE, x.hang());
        due("as many letters", 1, x.call(0, 0));
        due("one is on", STATE, x.call(1, 0));
        due("the same is on", STATE, x.call(0, 0));
        due("no such name, though one is on", BAD, x.call(2, 0));
        x.hang();
        due("as many letters", 6, x.call(1, 0));
        x.hang();
        for (int seed : SEEDS) {
            due("any seed", 1, x.call(0, seed));
            int z = next(seed);
            due("the first by seed " + seed, half(z, 5), x.say(0, 0));
            due("the second by seed " + seed, half(next(z), 5), x.say(0, 0));
            x.hang();
        }
    }

    /** "SAY the LETTER at a place": as many as the NAME has */
    private static void placesOfTheName() {
        AsInBertha x = line("e", 7);
        named(x, 0, 1, 2, 3, 4, 5);
        x.call(0, 1);
        due("the only place", 7, x.say(0, 0));
        due("no second", BAD, x.say(1, 0));
        due("no second noted", BAD, x.noted(1));
        due("none below", BAD, x.say(-1, 0));
        due("none noted below", BAD, x.noted(-1));
        due("said once", 1, x.led(3));
        x.hang();
        x.call(1, 1);
        for (int place = 0; place < 6; place++) {
            due("place", place, x.say(place, 0));
            due("place by its word", place, x.say(place, 1));
        }
        due("no seventh", BAD, x.say(6, 0));
        due("no seventh noted", BAD, x.noted(6));
        due("by below", BAD, x.say(0, -1));
        due("by above", BAD, x.say(0, 2));
        due("wild", BAD, x.say(Integer.MAX_VALUE, 0));
        due("wild", BAD, x.say(Integer.MIN_VALUE, 0));
        due("said twelve times", 12, x.led(3));
        due("time", 1 + 6 + 18, x.led(2));
    }

    /** "by its WORD a draw of twelve: right, if below CLEAR; if not, or plain: as told" */
    private static void belowClear() {
        for (int clear = 0; clear <= 12; clear++) {
            AsInBertha x = line(NEVER_RIGHT, 5);
            x.mend(5, 3, clear);
            boolean[] seen = new boolean[12];
            int z = -5;
            x.call(0, z);
            for (int i = 0; i < 60; i++) {
                z = next(z);
                int draw = (z >>> 8) % 12;
                seen[draw] = true;
                due("CLEAR " + clear + ", draw " + draw, draw < clear ? 5 : 6, x.say(0, 1));
                if (draw >= clear) {
                    z = next(z);
                }
            }
            due("the draw of CLEAR itself was seen", 1, clear == 12 || seen[clear] ? 1 : 0);
            due("and the one below it", 1, clear == 0 || seen[clear - 1] ? 1 : 0);
            z = next(z);
            due("plain takes one draw", 6, x.say(0, 0));
        }
    }

    /** "k as often as that place was said in this CALL" */
    private static void saidBefore() {
        AsInBertha x = line(AS_OFTEN, 1, 1);
        x.mend(1, 3, 12);
        x.call(0, 1);
        due("the first time", 1, x.say(0, 0));
        due("the second time", 2, x.say(0, 0));
        due("the other place, the first time", 1, x.say(1, 0));
        due("by the word", 1, x.say(0, 1));
        due("the fourth time", 4, x.say(0, 0));
        due("refused", BAD, x.say(0, 2));
        due("the fifth time", 5, x.say(0, 0));
        due("the other place, the second time", 2, x.say(1, 0));
        x.hang();
        x.call(0, 1);
        due("another call, the first time", 1, x.say(0, 0));
    }

    /** "9 at most" */
    private static void nineAtMost() {
        AsInBertha x = line(AS_OFTEN, 1);
        x.call(0, 1);
        for (int said = 0; said < 30; said++) {
            due("said " + said + " times ahead", 1 + Math.min(said, 9), x.say(0, 0));
        }
        due("but all are led", 30, x.led(3));
    }

    /** "NOTED is the latest heard of each place" */
    private static void latestNoted() {
        AsInBertha x = line(AS_OFTEN, 1, 0);
        x.call(0, 1);
        due("nothing yet", NOT, x.noted(0));
        due("nothing yet", NOT, x.noted(1));
        x.say(1, 0);
        due("letter 0 is something", 0, x.noted(1));
        due("nothing of the other", NOT, x.noted(0));
        x.say(0, 0);
        x.say(0, 0);
        due("the latest", 2, x.noted(0));
        x.say(0, 3);
        due("refused: the latest stays", 2, x.noted(0));
        x.hang();
        due("none is on", STATE, x.noted(0));
        x.call(0, 1);
        due("nothing yet in another call", NOT, x.noted(0));
    }

    /** "HANG UP: whether all places are NOTED, all right (1, 0)" */
    private static void allNotedAllRight() {
        AsInBertha x = line(AS_OFTEN, 1, 2, 3, 4, 5, 6);
        x.call(0, 1);
        due("nothing noted", 0, x.hang());
        x.call(0, 1);
        for (int place = 0; place < 5; place++) {
            x.say(place, 0);
        }
        due("one is not noted", 0, x.hang());
        for (int missing = 0; missing < 6; missing++) {
            x.call(0, 1);
            for (int place = 0; place < 6; place++) {
                due("noted " + place, place == missing ? NOT : 1 + place,
                    place == missing ? x.noted(place) : x.say(place, 0));
            }
            due("none is wrong", 0, x.led(4));
            due("but one is not noted", 0, x.hang());
        }
        x.call(0, 1);
        for (int place = 0; place < 6; place++) {
            x.say(place, 0);
        }
        due("all noted, all right", 1, x.hang());
        x.call(0, 1);
        for (int place = 0; place < 6; place++) {
            x.say(place, 0);
        }
        x.say(5, 0);
        due("the last is wrong now", 1, x.led(4));
        due("the last is wrong", 0, x.hang());
        x.mend(6, 3, 12);
        x.call(0, 1);
        for (int place = 0; place < 6; place++) {
            x.say(place, 0);
        }
        x.say(5, 0);
        x.say(5, 1);
        due("the last is right again", 0, x.led(4));
        due("the last is right again", 1, x.hang());
        due("calls", 11, x.led(0));
        due("right ones", 2, x.led(1));
    }

    /** "LED: CALLS hung up, right ones, all that was said (time), LETTERS said in this CALL, wrong ones noted now" */
    private static void ledByNumber() {
        AsInBertha x = line(NEVER_RIGHT, 1, 2);
        due("below", BAD, x.led(-1));
        due("above", BAD, x.led(5));
        due("wild", BAD, x.led(Integer.MIN_VALUE));
        due("wild", BAD, x.led(Integer.MAX_VALUE));
        x.mend(2, 3, 0);
        x.mend(2, 2, 9);
        x.call(0, 4);
        x.say(0, 0);
        x.say(0, 0);
        x.say(1, 1);
        int[] now = {0, 0, 11, 3, 2};
        for (int what = 0; what < 5; what++) {
            due("led " + what, now[what], x.led(what));
        }
        x.hang();
        int[] then = {1, 0, 11, 0, 0};
        for (int what = 0; what < 5; what++) {
            due("hung up, led " + what, then[what], x.led(what));
        }
        x.call(0, 4);
        due("said in this call", 0, x.led(3));
        x.say(0, 0);
        due("said in this call", 1, x.led(3));
        due("all that was said", 12, x.led(2));
        due("wrong now", 1, x.led(4));
    }

    /** "STATE: no CALL is on"; "both 0: none is on" */
    private static void noneIsOn() {
        AsInBertha x = line("e", 1, 2);
        for (int round = 0; round < 2; round++) {
            due("say", STATE, x.say(0, 0));
            due("say", STATE, x.say(5, 1));
            due("noted", STATE, x.noted(0));
            due("noted", STATE, x.noted(5));
            due("hang", STATE, x.hang());
            due("bad ahead of that", BAD, x.say(-1, 0));
            due("bad ahead of that", BAD, x.say(0, 2));
            due("bad ahead of that", BAD, x.noted(-1));
            // a choice, told in NOTES.md: no NAME has a seventh place
            due("bad ahead of that", BAD, x.say(6, 0));
            due("bad ahead of that", BAD, x.noted(6));
            due("led 3", 0, x.led(3));
            due("led 4", 0, x.led(4));
            due("calls", round, x.led(0));
            x.call(0, 1);
            x.say(0, 0);
            x.hang();
        }
    }

    /** "CHANGES (..; telling the same number is none)" */
    private static void sameNumberIsNone() {
        int[][] same = {{0, 0, 1}, {102, 1, 0}, {3, 2, 3}, {3, 3, 11}, {0, 4, 3}};
        AsInBertha x = line("e", 1);
        for (int[] s : same) {
            due("the same", s[2], x.mend(s[0], s[1], s[2]));
            due("is none", 0, x.count(2));
        }
        due("nothing to undo", STATE, x.undo());
        for (int i = 0; i < 5; i++) {
            x.mend(same[i][0], same[i][1], 7);
            due("another", i + 1, x.count(2));
            due("the same as now", 7, x.mend(same[i][0], same[i][1], 7));
            due("is none", i + 1, x.count(2));
        }
        x.undo();
        due("the same as undone", 3, x.mend(0, 4, 3));
        due("leaves what may be done again", 0, x.redo());
        due("done again", 7, x.of(0, 4));
    }

    /** "can be UNDONE, the latest first, and DONE AGAIN" */
    private static void latestFirst() {
        AsInBertha x = line("e", 1);
        due("none to undo", STATE, x.undo());
        due("none to do again", STATE, x.redo());
        x.mend(0, 4, 5);
        x.mend(0, 4, 6);
        x.mend(0, 0, 9);
        x.mend(102, 1, 4);
        x.mend(8, 2, 1);
        x.mend(8, 3, 0);
        due("undone", 5, x.undo());
        due("CLEAR", 11, x.of(8, 3));
        due("LONG stays", 1, x.of(8, 2));
        due("undone", 4, x.undo());
        due("LONG", 3, x.of(8, 2));
        due("undone", 3, x.undo());
        due("ALIKE", 0, x.of(102, 1));
        due("undone", 2, x.undo());
        due("KNOWN", 1, x.of(0, 0));
        due("undone", 1, x.undo());
        due("BAD LINE, the latest", 5, x.of(0, 4));
        due("undone", 0, x.undo());
        due("BAD LINE, the first", 3, x.of(0, 4));
        due("no more", STATE, x.undo());
        due("all stays", 3, x.of(0, 4));
        int[] left = {5, 4, 3, 2, 1, 0};
        for (int i : left) {
            due("done again", i, x.redo());
            due("may be undone", 6 - i, x.count(2));
        }
        due("no more", STATE, x.redo());
        due("CLEAR again", 0, x.of(8, 3));
        due("LONG again", 1, x.of(8, 2));
        due("ALIKE again", 4, x.of(201, 1));
        due("KNOWN again", 9, x.of(0, 0));
        due("BAD LINE again", 6, x.of(0, 4));
    }

    /** "(as long as no other came behind)" */
    private static void asLongAsNoOtherCame() {
        AsInBertha x = line("e", 1);
        x.mend(1, 2, 4);
        x.mend(1, 2, 5);
        x.mend(1, 2, 6);
        x.undo();
        x.undo();
        due("two may be done again", 1, x.redo());
        due("another comes", 3, x.mend(2, 2, 9));
        due("none may be", STATE, x.redo());
        due("5 stays", 5, x.of(1, 2));
        due("two and the other", 3, x.count(2));
        due("the other is undone", 2, x.undo());
        due("the other", 3, x.of(2, 2));
        due("and may be done again", 0, x.redo());
        due("the other", 9, x.of(2, 2));
    }

    /** "What is answered so changes nothing": BAD is no change, and ends nothing that may be DONE AGAIN. */
    private static void refusedIsNoChange() {
        int[][] bad = {{0, 0, 10}, {1, 0, 1}, {101, 1, 3}, {102, 1, 10}, {12, 2, 3}, {0, 2, 0}, {0, 3, 13}, {1, 4, 1},
            {0, 4, 10}, {0, 5, 1}, {0, -1, 1}};
        for (int[] b : bad) {
            AsInBertha x = line("e", 1);
            x.mend(1, 2, 4);
            x.mend(1, 2, 5);
            x.undo();
            due("refused", BAD, x.mend(b[0], b[1], b[2]));
            due("no change", 1, x.count(2));
            due("may be done again", 0, x.redo());
            due("done again", 5, x.of(1, 2));
        }
    }

    /** LONG of LETTER 1: 1, 2 and so on to 9, and 1 again. */
    private static int told(int i) {
        return 1 + i % 9;
    }

    /** "40 at most are kept" */
    private static void fortyAtMost() {
        for (int changes : new int[] {39, 40, 41, 42, 80, 81, 100}) {
            AsInBertha x = new AsInBertha();
            for (int i = 0; i < changes; i++) {
                x.mend(1, 2, told(i));
                due("changes kept", Math.min(i + 1, 40), x.count(2));
            }
            int kept = Math.min(changes, 40);
            for (int i = 1; i <= kept; i++) {
                due("undone of " + changes, kept - i, x.undo());
                due("undone to", i == changes ? 3 : told(changes - 1 - i), x.of(1, 2));
            }
            due("no more of " + changes, STATE, x.undo());
            for (int i = kept - 1; i >= 0; i--) {
                due("done again of " + changes, i, x.redo());
                due("done again to", told(changes - 1 - i), x.of(1, 2));
            }
            due("no more of " + changes, STATE, x.redo());
        }
        AsInBertha x = new AsInBertha();
        for (int i = 0; i < 45; i++) {
            x.mend(1, 2, told(i));
        }
        for (int i = 0; i < 10; i++) {
            x.undo();
        }
        for (int i = 0; i < 12; i++) {
            x.mend(0, 4, i % 2);
        }
        due("thirty and twelve", 40, x.count(2));
        for (int i = 0; i < 12; i++) {
            x.undo();
        }
        due("28 are left", 28, x.count(2));
        due("BAD LINE is as at first", 3, x.of(0, 4));
        for (int i = 27; i >= 0; i--) {
            due("those ahead", i, x.undo());
        }
        due("no more", STATE, x.undo());
        due("to the seventh", told(6), x.of(1, 2));
    }

    /** "deeds are none" */
    private static void deedsAreNone() {
        AsInBertha x = line("e", 1);
        x.mend(1, 2, 4);
        x.mend(1, 2, 5);
        x.undo();
        x.call(0, 1);
        x.say(0, 0);
        x.say(0, 1);
        x.image();
        x.hang();
        x.back();
        named(x, 2);
        lawOf(x, "1");
        x.body(1);
        x.act(0, 1, 1);
        x.keep(0, 0);
        due("no change", 1, x.count(2));
        due("may be done again", 0, x.redo());
        x.undo();
        x.undo();
        due("no deed is undone", 2, x.led(3));
        due("no name is lost", 2, x.count(0));
    }

    /** "AN IMAGE keeps the CALL that is on" */
    private static void imageKeepsTheCall() {
        AsInBertha x = line(AS_OFTEN, 1, 2);
        named(x, 9);
        x.call(0, 1);
        x.say(0, 0);
        x.say(0, 0);
        due("kept", 0, x.image());
        x.say(0, 0);
        x.say(1, 0);
        x.hang();
        x.call(1, 2);
        x.say(0, 0);
        for (int round = 0; round < 2; round++) {
            due("laid back", 0, x.back());
            due("noted", 2, x.noted(0));
            due("not noted", NOT, x.noted(1));
            due("one is on", STATE, x.call(1, 1));
            due("said in this call", 2, x.led(3));
            due("the third time", 3, x.say(0, 0));
            due("the first time", 2, x.say(1, 0));
            due("wrong", 1, x.led(4));
        }
        lawOf(x, HALVES);
        x.back();
        // two draws were made ahead of the image
        int z = next(next(1));
        for (int i = 0; i < 20; i++) {
            z = next(z);
            due("the draws go on", half(z, 1), x.say(0, 0));
        }
    }

    /** "what LED tells" */
    private static void imageKeepsWhatLedTells() {
        AsInBertha x = line("e", 1, 2);
        x.call(0, 1);
        x.hang();
        x.call(0, 1);
        x.say(0, 0);
        x.say(1, 0);
        x.hang();
        x.call(0, 1);
        x.say(0, 1);
        due("calls", 2, x.image());
        int[] led = {2, 1, 2 + 3, 1, 0};
        x.say(1, 1);
        x.hang();
        due("calls now", 3, x.led(0));
        due("right ones now", 2, x.led(1));
        due("time now", 8, x.led(2));
        x.mend(0, 4, 9);
        named(x, 3);
        due("calls then", 2, x.back());
        for (int what = 0; what < 5; what++) {
            due("led " + what, led[what], x.led(what));
        }
        due("but not what is told", 9, x.of(0, 4));
        due("nor the names", 2, x.count(0));
        due("nor the changes", 1, x.count(2));
    }

    /** "It is laid back: CALLS. STATE: there is none." */
    private static void noImage() {
        AsInBertha x = line("e", 1);
        due("there is none", STATE, x.back());
        x.call(0, 1);
        x.say(0, 0);
        due("there is none", STATE, x.back());
        due("the call stays on", 1, x.led(3));
        due("and what is noted", 1, x.noted(0));
        due("it ends right", 1, x.hang());
        due("there is none", STATE, x.back());
        due("calls stay", 1, x.led(0));
        due("an image", 1, x.image());
        due("there is one", 1, x.back());
        due("laid back again", 1, x.back());
    }

    /** An IMAGE of an object on which no CALL is on. */
    private static void imageOfNoCall() {
        AsInBertha x = line("e", 1);
        due("of a new object", 0, x.image());
        x.call(0, 1);
        x.say(0, 0);
        due("laid back", 0, x.back());
        due("none is on", STATE, x.hang());
        due("none is on", STATE, x.say(0, 0));
        for (int what = 0; what < 5; what++) {
            due("led " + what, 0, x.led(what));
        }
        due("one may be on", 1, x.call(0, 1));
        due("nothing noted", NOT, x.noted(0));
    }

    /** A later IMAGE takes the place of the one ahead. */
    private static void imageAnew() {
        AsInBertha x = line("e", 1);
        x.image();
        x.call(0, 1);
        x.hang();
        due("anew", 1, x.image());
        x.call(0, 1);
        x.hang();
        due("the later one", 1, x.back());
        due("calls", 1, x.led(0));
    }
}
