/**
 * Part 1 of the document's Terms: letters, names, words, the line, THE LAW. Each sentence that names a bound
 * has a test of its own, headed by that sentence.
 */
public final class LineBoundsTests extends Answers {
    private static final String DIGITS = "0123456789", NAMES = "aneshk", AHEAD = "(!-";
    private static final String JOINS = "|&<=>+-*/%", UNCOMPARED = "|&+-*/%";
    /** Each LETTER is heard right by 50 of 100, as the next one by 50. */
    private static final String HALVES = "s=h?1;h=(s+1)%12";
    private static final String NEVER_RIGHT = "h=(s+1)%12";

    public static void main(String[] args) {
        twelveLetters();
        tenNames();
        oneToSixLetters();
        known();
        alike();
        longs();
        clear();
        clearOfTwelve();
        badLine();
        tapeOf120();
        oneLineOrMore();
        lineOfOneOrTwo();
        comparedOnce();
        fourDigits();
        noBlanks();
        sixNames();
        sixOpen();
        wraps();
        towardZero();
        byZero();
        oneOrZero();
        allWorkedOut();
        firstLineCounts();
        firstByteWithWhichNoTextGoesOn();
        endsTooEarly();
        weightWithin99();
        allZero();
        partsCut();
        withoutText();
        saidAhead();
        saidPlain();
        tell();
    }

    /** "LETTERS 0 .. 11 (twelve sounds)." */
    private static void twelveLetters() {
        for (int letter : new int[] {0, 11}) {
            AsInBertha x = new AsInBertha();
            due("a name of letter " + letter, 0, named(x, letter));
            due("its letter " + letter, letter, x.letter(0, 0));
            due("LONG of letter " + letter, 3, x.mend(letter, 2, 4));
            due("CLEAR of letter " + letter, 11, x.mend(letter, 3, 4));
            due("ALIKE of letter " + letter, 0, x.mend(100 * letter + 5, 1, 4));
            due("ALIKE with letter " + letter, 4, x.mend(500 + letter, 1, 3));
            fraction("heard letter " + letter, 4, 5, x.heard(101 * letter, 0, 0), x.heard(101 * letter, 0, 1));
        }
        for (int none : new int[] {-1, 12, 99, -128, 127}) {
            AsInBertha x = new AsInBertha();
            due("no name of " + none, BAD, named(x, none));
            due("nor kept", 0, x.count(0));
            due("no LONG of " + none, BAD, x.mend(none, 2, 4));
            due("no LONG told of " + none, BAD, x.of(none, 2));
            due("no CLEAR of " + none, BAD, x.mend(none, 3, 4));
            due("no CLEAR told of " + none, BAD, x.of(none, 3));
            due("no ALIKE of " + none, BAD, x.mend(100 * none + 5, 1, 4));
            due("no ALIKE told of " + none, BAD, x.of(100 * none + 5, 1));
            due(none + " is not said", NONE, x.heard(100 * none + 5, 0, 0));
            due("no changes", 0, x.count(2));
        }
        for (int none : new int[] {12, 99, 512, 599, 1112, 1199}) {
            AsInBertha x = new AsInBertha();
            due("no ALIKE " + none, BAD, x.mend(none, 1, 4));
            due("no ALIKE told " + none, BAD, x.of(none, 1));
            due("not heard " + none, NONE, x.heard(none, 0, 0));
        }
    }

    /** "NAMES 0 .. 9, as they come" */
    private static void tenNames() {
        AsInBertha x = new AsInBertha();
        for (int i = 0; i < 10; i++) {
            due("no name " + i + " yet", BAD, x.of(i, 5));
            due("name as it comes", i, named(x, i, 11 - i));
        }
        due("an eleventh", FULL, named(x, 3));
        due("is not kept", 10, x.count(0));
        due("name 10", BAD, x.letter(10, 0));
        for (int i = 0; i < 10; i++) {
            due("name " + i + " stays", i, x.letter(i, 0));
            due("name " + i + " stays so long", 2, x.of(i, 5));
        }
    }

    /** "1 .. 6 LETTERS" */
    private static void oneToSixLetters() {
        AsInBertha x = new AsInBertha();
        bytes(x, 0, 1, 2, 3, 4, 5, 6, 7, 8, 9);
        due("a name of none", BAD, x.name(0, 0));
        due("a name of seven", BAD, x.name(0, 7));
        due("a name of nine", BAD, x.name(0, 9));
        due("no names yet", 0, x.count(0));
        due("a name of one", 0, x.name(0, 1));
        due("a name of six", 1, x.name(0, 6));
        due("one", 1, x.of(0, 5));
        due("six", 6, x.of(1, 5));
        due("the sixth", 6, x.letter(1, 5));
        due("no seventh", NOT, x.letter(1, 6));
    }

    /** v from least to most alone; one that is refused leaves the number as it was, and is no change. */
    private static void told(String what, int number, int kind, int first, int least, int most) {
        AsInBertha x = new AsInBertha();
        named(x, 1, 2);
        due(what + " at first", first, x.of(number, kind));
        int[] bad = {least - 1, most + 1, least - 100, most + 100, Integer.MIN_VALUE, Integer.MAX_VALUE};
        for (int v : bad) {
            due(what + " " + v, BAD, x.mend(number, kind, v));
            due(what + " stays at first", first, x.of(number, kind));
        }
        due(what + " no changes", 0, x.count(2));
        due(what + " the most", first, x.mend(number, kind, most));
        due(what + " is the most", most, x.of(number, kind));
        due(what + " the least", most, x.mend(number, kind, least));
        due(what + " is the least", least, x.of(number, kind));
        for (int v : bad) {
            due(what + " " + v, BAD, x.mend(number, kind, v));
            due(what + " stays the least", least, x.of(number, kind));
        }
        due(what + " two changes", 2, x.count(2));
    }

    /** "KNOWN (0 .. 9; 1 at first: as likely ahead as this by all)" */
    private static void known() {
        told("KNOWN", 0, 0, 1, 0, 9);
        AsInBertha x = new AsInBertha();
        named(x, 4);
        named(x, 4);
        bytes(x, 0, 4);
        fraction("both at first", 1, 2, x.likely(0, 1, 0), x.likely(0, 1, 1));
        x.mend(1, 0, 9);
        fraction("the most", 9, 10, x.likely(0, 1, 0), x.likely(0, 1, 1));
        x.mend(1, 0, 0);
        fraction("the least", 0, 1, x.likely(0, 1, 0), x.likely(0, 1, 1));
    }

    /** "ALIKE of two LETTERS (0 .. 9; 0 at first; of one with itself 9 always; as told for the one as for the other)" */
    private static void alike() {
        told("ALIKE", 102, 1, 0, 0, 9);
        told("ALIKE of the outer ones", 11, 1, 0, 0, 9);
        told("ALIKE of the outer ones", 1100, 1, 0, 0, 9);
        AsInBertha all = new AsInBertha();
        for (int one = 0; one < 12; one++) {
            for (int other = 0; other < 12; other++) {
                int v = 1 + Math.min(one, other) % 9;
                int was = one < other ? 0 : one == other ? BAD : v;
                due("ALIKE of " + one + " and " + other, was, all.mend(100 * one + other, 1, v));
                due("ALIKE told of " + one + " and " + other, one == other ? 9 : v, all.of(100 * other + one, 1));
            }
        }
        AsInBertha x = new AsInBertha();
        for (int letter = 0; letter < 12; letter++) {
            due("ALIKE with itself", 9, x.of(101 * letter, 1));
            due("not to be mended", BAD, x.mend(101 * letter, 1, 8));
            due("not even as it is", BAD, x.mend(101 * letter, 1, 9));
            due("ALIKE with itself stays", 9, x.of(101 * letter, 1));
        }
        due("no changes", 0, x.count(2));
        x.mend(307, 1, 6);
        due("for the other", 6, x.of(703, 1));
        due("the same number for the other", 6, x.mend(703, 1, 6));
        due("is no change", 1, x.count(2));
        due("another for the other", 6, x.mend(703, 1, 2));
        due("for the one", 2, x.of(307, 1));
        x.undo();
        due("undone for the one", 6, x.of(307, 1));
        due("undone for the other", 6, x.of(703, 1));
    }

    /** "LONG (1 .. 9; 3 at first: it takes as long; a LETTER itself takes 1)" */
    private static void longs() {
        told("LONG", 0, 2, 3, 1, 9);
        told("LONG", 11, 2, 3, 1, 9);
        AsInBertha x = new AsInBertha();
        named(x, 5, 6);
        due("themselves", 2, x.time(0, 0));
        due("a word at first", 4, x.time(0, 1));
        x.mend(5, 2, 1);
        due("a word as short as its letter", 2, x.time(0, 1));
        x.mend(5, 2, 9);
        due("a long word", 10, x.time(0, 1));
    }

    /** "CLEAR (0 .. 12; 11 at first ..)" */
    private static void clear() {
        told("CLEAR", 0, 3, 11, 0, 12);
        told("CLEAR", 11, 3, 11, 0, 12);
    }

    /** ".. in so many of twelve it is heard surely right, else as the LETTER itself" */
    private static void clearOfTwelve() {
        AsInBertha x = new AsInBertha();
        named(x, 5);
        lawOf(x, HALVES);
        x.mend(5, 3, 0);
        fraction("never by the word", 1, 2, x.right(0, 1, 0), x.right(0, 1, 1));
        x.mend(5, 3, 1);
        fraction("650 by 12", 27, 50, x.right(0, 1, 0), x.right(0, 1, 1));
        x.mend(5, 3, 11);
        fraction("1150 by 12", 19, 20, x.right(0, 1, 0), x.right(0, 1, 1));
        x.mend(5, 3, 12);
        fraction("always by the word", 1, 1, x.right(0, 1, 0), x.right(0, 1, 1));
        lawOf(x, NEVER_RIGHT);
        x.call(0, 3);
        for (int i = 0; i < 40; i++) {
            due("CLEAR 12 in deed", 5, x.say(0, 1));
        }
        x.mend(5, 3, 0);
        for (int i = 0; i < 40; i++) {
            due("CLEAR 0 in deed", 6, x.say(0, 1));
        }
    }

    /** "BAD LINE (0 .. 9; 3 at first)." */
    private static void badLine() {
        told("BAD LINE", 0, 4, 3, 0, 9);
        AsInBertha x = new AsInBertha();
        x.mend(102, 1, 9);
        fraction("at first 27 by 36 + 27", 3, 7, x.heard(102, 0, 0), x.heard(102, 0, 1));
        x.mend(0, 4, 0);
        fraction("no bad line", 0, 1, x.heard(102, 0, 0), x.heard(102, 0, 1));
        fraction("no bad line", 1, 1, x.heard(101, 0, 0), x.heard(101, 0, 1));
        x.mend(0, 4, 9);
        fraction("the worst, 81 by 90 + 81", 9, 19, x.heard(102, 0, 0), x.heard(102, 0, 1));
    }

    private static void faulty(String text, int fault) {
        AsInBertha x = new AsInBertha();
        due("law of " + text, -100 - fault, lawOf(x, text));
        due("the tape after " + text, 0, x.count(1));
        fraction("no law after " + text, 1, 1, x.heard(505, 0, 0), x.heard(505, 0, 1));
    }

    private static void fine(String text) {
        AsInBertha x = new AsInBertha();
        due("law of " + text, 1, lawOf(x, text));
        due("the tape after " + text, 0, x.count(1));
    }

    /** "THE LAW is a TEXT by THE TAPE (at most 120 bytes)" */
    private static void tapeOf120() {
        // WEIGHT 57 + 10 for itself, 1 for all others
        String text = "e?1" + "+1".repeat(56) + "+10;1";
        due("as long as can be", 120, text.length());
        AsInBertha x = new AsInBertha();
        for (int i = 0; i < 120; i++) {
            due("fed", i + 1, x.feed(text.charAt(i)));
        }
        due("one more", FULL, x.feed('9'));
        due("and one more", FULL, x.feed(';'));
        due("is not there", 120, x.count(1));
        due("all 120 count", 1, x.law());
        fraction("by all 120", 67, 78, x.heard(0, 0, 0), x.heard(0, 0, 1));
        due("room again", 1, x.feed('1'));
        AsInBertha y = new AsInBertha();
        due("ends with the tape", -220, lawOf(y, "1+".repeat(60)));
        due("one more would have ended it", -220, lawOf(y, "1+".repeat(60) + "1"));
        due("faulty at its last byte", -219, lawOf(y, "1+".repeat(59) + "1)"));
    }

    /** "LINES, one or more, parted by ;" */
    private static void oneLineOrMore() {
        faulty("", 0);
        faulty(";", 0);
        faulty("1;", 2);
        faulty("1;;1", 2);
        faulty(";1", 0);
        fine("1");
        fine("1;2");
        fine("1" + ";1".repeat(59));
        faulty("1" + ";1".repeat(59) + ";", 120);
    }

    /** "LINE: E, or E ? E (what counts if the first is not 0)." */
    private static void lineOfOneOrTwo() {
        fine("1?2");
        fine("1?2;1?2");
        faulty("?", 0);
        faulty("?1", 0);
        faulty("1?", 2);
        faulty("1?;1", 2);
        faulty("1?2?3", 3);
        faulty("1??2", 2);
        faulty("(1?2)", 2);
        worth("0?7;8", 8);
        worth("1?7;8", 7);
        worth("0-1?7;8", 7);
    }

    /** "B = S, or S < S, S = S, S > S." */
    private static void comparedOnce() {
        for (char one : "<=>".toCharArray()) {
            fine("1" + one + "2");
            for (char other : "<=>".toCharArray()) {
                faulty("1" + one + "2" + other + "3", 3);
                faulty("1" + one + other + "3", 2);
                fine("(1" + one + "2)" + other + "3");
                fine("1" + one + "(2" + other + "3)");
                fine("1" + one + "2&3" + other + "4");
                fine("1" + one + "2|3" + other + "4");
                fine("1" + one + "2?3" + other + "4");
                fine("1" + one + "2;3" + other + "4");
                faulty("1" + one + "2+3" + other + "4", 5);
            }
        }
    }

    /** "O = a number (1 to 4 digits)" */
    private static void fourDigits() {
        fine("1");
        fine("1234");
        fine("0000");
        faulty("12345", 4);
        faulty("00000", 4);
        faulty("1+12345", 6);
        faulty("(12345)", 5);
        worth("9999-9998", 1);
        worth("0007", 7);
        for (int i = 0; i < 128; i++) {
            worth(String.valueOf(i), Math.min(i, 99));
        }
        worth("9999*1>9998", 1);
    }

    /** "No blanks." */
    private static void noBlanks() {
        for (String blank : new String[] {" ", "\t", "\n", "\r", "\0"}) {
            faulty(blank + "1", 0);
            faulty("1" + blank, 1);
            faulty("1" + blank + "+1", 1);
            faulty("1+" + blank + "1", 2);
            faulty("1;" + blank + "1", 2);
        }
    }

    /** "NAMES: a .., n .., e 1, if these are the same, s .., h .., k .." */
    private static void sixNames() {
        for (char c = 'a'; c <= 'z'; c++) {
            if (NAMES.indexOf(c) >= 0) {
                fine(String.valueOf(c));
            } else {
                faulty(String.valueOf(c), 0);
            }
            faulty(String.valueOf((char) (c - 32)), 0);
        }
        faulty("aa", 1);
        faulty("a1", 1);
        faulty("1a", 1);
        worth("a", 5);
        worth("n", 7);
        worth("e", 0);
        worth("s", 3);
        worth("h", 4);
        worth("k", 2);
        AsInBertha x = new AsInBertha();
        lawOf(x, "e?a*10+k;1");
        fraction("e 1, a 9 of the same, k 8", 98, 109, x.heard(505, 8, 0), x.heard(505, 8, 1));
        fraction("k 0", 90, 101, x.heard(505, 0, 0), x.heard(505, 0, 1));
    }

    /** "At most 6 of ( ! - ahead of an O are open at once." */
    private static void sixOpen() {
        for (char a : AHEAD.toCharArray()) {
            for (char b : AHEAD.toCharArray()) {
                String six = "" + a + b + a + a + b + b;
                String closed = ")".repeat((int) six.chars().filter(c -> c == '(').count());
                fine(six + "1" + closed);
                for (char c : AHEAD.toCharArray()) {
                    faulty(six + c + "1" + closed + (c == '(' ? ")" : ""), 6);
                }
            }
        }
        fine("!!!!!!1+!!!!!!1");
        fine("------1-------1");
        fine("((((((1))))))*((((((1))))))");
        fine("(((((!1+!1)))))");
        fine("(((((!1)))))+!(((((1)))))");
        faulty("(((((!1+!!1)))))", 9);
        fine("((((((1-1))))))");
        faulty("((((((1--1))))))", 8);
        faulty("((((((1+(1)))))))", 8);
        fine("(((((1)+(1)))))");
        fine("1?!!!!!!1");
        faulty("1?!!!!!!!1", 8);
        fine("1?2;!!!!!!1");
        faulty("1?2;!!!!!!!1", 10);
        fine("!!!!!!1?!!!!!!1");
        fine("!(-!(-a)*-!(n))");
        faulty("!(-!(-!a)*-!(n))", 6);
    }

    /** The WEIGHT that a text gives 3 heard as 4 (k 2, ALIKE 5, BAD LINE 7), by that of all others, 1. */
    private static void worth(String text, int want) {
        AsInBertha x = new AsInBertha();
        x.mend(304, 1, 5);
        x.mend(0, 4, 7);
        due("law of " + text, 1, lawOf(x, "!(s=3&h=4)?1;" + text));
        long above = x.heard(304, 2, 0);
        long below = x.heard(304, 2, 1);
        due("weight of " + text, want, above * 11 / (below - above));
    }

    /** "Ints that wrap" */
    private static void wraps() {
        // 2048 * 1024 * 1024 is 2 to the power of 31
        worth("2048*1024*1024<0", 1);
        worth("2048*1024*1023>0", 1);
        worth("2048*1024*1024*2=0", 1);
        worth("2048*1024*1024-1>0", 1);
        worth("2048*1024*1024-1+1<0", 1);
        worth("2048*1024*1024+2048*1024*1024=0", 1);
        worth("-(2048*1024*1024)<0", 1);
        worth("-(2048*1024*1024-1)<0", 1);
        worth("2048*1024*1024/-1<0", 1);
        worth("2048*1024*1024%-1+5", 5);
        worth("9999*9999*21>0", 1);
        worth("9999*9999*22<0", 1);
    }

    /** "/ and % toward 0" */
    private static void towardZero() {
        worth("10+7/2", 13);
        worth("10+-7/2", 7);
        worth("10+7/-2", 7);
        worth("10+-7/-2", 13);
        worth("10+7%2", 11);
        worth("10+-7%2", 9);
        worth("10+7%-2", 11);
        worth("10+-7%-2", 9);
        worth("10+-1/2", 10);
    }

    /** "by 0 they give 0" */
    private static void byZero() {
        worth("10+5/0", 10);
        worth("10+5%0", 10);
        worth("10+0/0", 10);
        worth("10+0%0", 10);
        worth("10+-5/(1-1)", 10);
        worth("10+5/e", 10);
        worth("10+5/0*3", 10);
        worth("10+5/1", 15);
    }

    /** "| & < = > ! give 1, 0" */
    private static void oneOrZero() {
        worth("5|0", 1);
        worth("0|5", 1);
        worth("5|7", 1);
        worth("0|0", 0);
        worth("-5|0", 1);
        worth("5&7", 1);
        worth("-5&-7", 1);
        worth("5&0", 0);
        worth("0&5", 0);
        worth("0&0", 0);
        worth("2<3", 1);
        worth("3<3", 0);
        worth("4<3", 0);
        worth("2=3", 0);
        worth("3=3", 1);
        worth("4=3", 0);
        worth("2>3", 0);
        worth("3>3", 0);
        worth("4>3", 1);
        worth("-1<0", 1);
        worth("!0", 1);
        worth("!1", 0);
        worth("!9", 0);
        worth("!-1", 0);
        worth("!!9", 1);
    }

    /** "all is worked out" */
    private static void allWorkedOut() {
        worth("1|1/0", 1);
        worth("0&1/0", 0);
        worth("(0&1%0)+(1|1%0)", 1);
    }

    /** "The first LINE without a first E, or whose first E is not 0, counts; none: 0." */
    private static void firstLineCounts() {
        worth("5;6", 5);
        worth("0;6", 0);
        worth("0?5;6;7", 6);
        worth("2?5;6", 5);
        worth("-2?5;6", 5);
        worth("0?5;0?6;7?8;9", 8);
        worth("0?5", 0);
        worth("0?5;0?6", 0);
        AsInBertha x = new AsInBertha();
        lawOf(x, "0?5");
        fraction("none: all are 0", 1, 1, x.heard(303, 0, 0), x.heard(303, 0, 1));
    }

    /** By each of all bytes: whether a text that begins so ends well with it, goes on with it, or is faulty there. */
    private static void goesOn(String begun, String ends, String more) {
        for (int b = 0; b < 256; b++) {
            AsInBertha x = new AsInBertha();
            fed(x, begun);
            due("a byte more", begun.length() + 1, x.feed(b));
            int fault = more.indexOf(b) >= 0 ? begun.length() + 1 : begun.length();
            due("law of " + begun + " and byte " + b, ends.indexOf(b) >= 0 ? 1 : -100 - fault, x.law());
        }
    }

    /** "FAULT: the place (from 0) of the first byte with which no TEXT goes on" */
    private static void firstByteWithWhichNoTextGoesOn() {
        String operand = DIGITS + NAMES;
        String line = JOINS + "?;";
        for (String begun : new String[] {"", "!", "-", "1+", "1;", "1?", "1?2;", "1<", "a&", "!!!!!!1+", "!!!!!"}) {
            goesOn(begun, operand, AHEAD);
        }
        goesOn("(", "", operand + AHEAD);
        goesOn("(((((-1-", "", operand + AHEAD);
        goesOn("(((((-1--", "", operand);
        goesOn("((((((", "", operand);
        goesOn("!!!!!!", operand, "");
        goesOn("------", operand, "");
        goesOn("1-!-!-!-", operand, "");
        goesOn("1", DIGITS, line);
        goesOn("123", DIGITS, line);
        goesOn("1234", "", line);
        goesOn("a", "", line);
        goesOn("(1)", "", line);
        goesOn("!1", DIGITS, line);
        goesOn("1<2", DIGITS, UNCOMPARED + "?;");
        goesOn("1=2+3", DIGITS, UNCOMPARED + "?;");
        goesOn("1<2&3", DIGITS, line);
        goesOn("(1<2)", "", line);
        goesOn("1?2", DIGITS, JOINS + ";");
        goesOn("1<2?3", DIGITS, JOINS + ";");
        goesOn("1?2>3", DIGITS, UNCOMPARED + ";");
        goesOn("1?2;3", DIGITS, line);
        goesOn("(1", ")", DIGITS + JOINS);
        goesOn("((1", "", ")" + DIGITS + JOINS);
        goesOn("1<(2<3", ")", DIGITS + UNCOMPARED);
        goesOn("1<(2", ")", DIGITS + JOINS);
        goesOn("1<(2)", "", UNCOMPARED + "?;");
        AsInBertha x = new AsInBertha();
        due("the first of several", -103, lawOf(x, "1+2)(b  "));
    }

    /** "the length, if it ends too early" */
    private static void endsTooEarly() {
        String[] early = {"", "(", "!", "-", "1+", "1|", "1?", "1;", "(1", "((1)", "1<", "!(a+n", "((((((1)))))", "1?2;"};
        for (String text : early) {
            faulty(text, text.length());
        }
    }

    /** "It gives a WEIGHT (held within 0 .. 99)" */
    private static void weightWithin99() {
        worth("98", 98);
        worth("99", 99);
        worth("100", 99);
        worth("9999", 99);
        worth("2048*1024*1024-1", 99);
        worth("1", 1);
        worth("0", 0);
        worth("-1", 0);
        worth("-9999", 0);
        worth("2048*1024*1024", 0);
    }

    /** "as likely as these by all twelve (all 0: surely right)" */
    private static void allZero() {
        AsInBertha x = new AsInBertha();
        named(x, 2, 3);
        named(x, 2, 4);
        named(x, 3, 3);
        lawOf(x, "s=2?0-5;1");
        for (int h = 0; h < 12; h++) {
            fraction("all 0, heard as " + h, h == 2 ? 1 : 0, 1, x.heard(200 + h, 0, 0), x.heard(200 + h, 0, 1));
            fraction("all 1, heard as " + h, 1, 12, x.heard(300 + h, 0, 0), x.heard(300 + h, 0, 1));
        }
        fraction("PARTS 100 and 8", 2, 25, x.right(0, 0, 0), x.right(0, 0, 1));
        fraction("PARTS 100 and 8 for the other", 2, 25, x.confused(1, 0), x.confused(1, 1));
        due("surely right is not worst", 1, x.worst(0));
        fraction("never the other", 0, 1, x.confused(2, 0), x.confused(2, 1));
        bytes(x, 0, 7, 5);
        due("nobody can be heard so", 4, x.who(0));
        due("the first can't be heard so", 0, x.fits(0, 0));
        due("the one that can", 2, x.likeliest(0));
        fraction("the one that can", 1, 1, x.likely(0, 2, 0), x.likely(0, 2, 1));
        bytes(x, 0, 7);
        fraction("2 is never heard so", 0, 1, x.sums(0, 2, 0), x.sums(0, 2, 1));
        fraction("one of eleven", 1, 11, x.sums(0, 3, 0), x.sums(0, 3, 1));
        x.call(0, 1);
        for (int i = 0; i < 20; i++) {
            due("surely right in deed", 2, x.say(0, 0));
        }
        lawOf(x, "s=2&h=7;0");
        fraction("one is not 0", 0, 1, x.heard(202, 0, 0), x.heard(202, 0, 1));
        fraction("one is not 0", 1, 1, x.heard(207, 0, 0), x.heard(207, 0, 1));
    }

    /** "PARTS: these chances in hundredths (cut)" */
    private static void partsCut() {
        AsInBertha x = new AsInBertha();
        named(x, 5);
        named(x, 6);
        lawOf(x, "s=h?2;h=(s+1)%12");
        fraction("2 of 3 is 66", 33, 50, x.right(0, 0, 0), x.right(0, 0, 1));
        fraction("1 of 3 is 33", 33, 100, x.confused(1, 0), x.confused(1, 1));
        fraction("but not as heard", 2, 3, x.heard(505, 0, 0), x.heard(505, 0, 1));
        lawOf(x, "s=h?1;h=(s+1)%12?99");
        fraction("1 of 100 is 1", 1, 100, x.right(0, 0, 0), x.right(0, 0, 1));
        lawOf(x, "s=h?1;h=(s+1)%12?99;h=(s+2)%12");
        fraction("1 of 101 is 0", 0, 1, x.right(0, 0, 0), x.right(0, 0, 1));
        fraction("1 of 101 as heard", 1, 101, x.heard(505, 0, 0), x.heard(505, 0, 1));
        fraction("99 of 101 is 98", 49, 50, x.confused(1, 0), x.confused(1, 1));
    }

    /** "Without a text: e times 9, and a times n, less 2 times k (0 at least)." */
    private static void withoutText() {
        AsInBertha x = new AsInBertha();
        x.mend(0, 4, 9);
        x.mend(102, 1, 2);
        fraction("18 by 90 + 18", 1, 6, x.heard(102, 0, 0), x.heard(102, 0, 1));
        fraction("2 by 74 + 2", 1, 38, x.heard(102, 8, 0), x.heard(102, 8, 1));
        fraction("0 by 72", 0, 1, x.heard(102, 9, 0), x.heard(102, 9, 1));
        x.mend(102, 1, 1);
        fraction("9 less 8", 1, 83, x.heard(102, 4, 0), x.heard(102, 4, 1));
        fraction("9 less 10 is 0", 0, 1, x.heard(102, 5, 0), x.heard(102, 5, 1));
        fraction("and takes nothing of the others", 1, 1, x.heard(101, 5, 0), x.heard(101, 5, 1));
        x.mend(0, 4, 0);
        fraction("9 less 18 is 0: all are", 1, 1, x.heard(101, 9, 0), x.heard(101, 9, 1));
        fraction("9 less 18 is 0: all are", 0, 1, x.heard(102, 9, 0), x.heard(102, 9, 1));
    }

    /** "k how many times it was said ahead" (0 .. 9, by promise 8) */
    private static void saidAhead() {
        AsInBertha x = new AsInBertha();
        due("less than never", NONE, x.heard(505, -1, 0));
        due("ten times", NONE, x.heard(505, 10, 0));
        due("wild", NONE, x.heard(505, Integer.MAX_VALUE, 0));
        due("wild", NONE, x.heard(505, Integer.MIN_VALUE, 0));
        lawOf(x, "s=h?k;1");
        fraction("never", 0, 1, x.heard(505, 0, 0), x.heard(505, 0, 1));
        fraction("nine times", 9, 20, x.heard(505, 9, 0), x.heard(505, 9, 1));
        AsInBertha y = new AsInBertha();
        y.mend(0, 4, 9);
        for (int k = 0; k <= 9; k++) {
            fraction("ahead of a change", 1, 1, y.heard(101, k, 0), y.heard(101, k, 1));
        }
        y.mend(102, 1, 9);
        for (int k = 0; k <= 9; k++) {
            int above = 81 - 2 * k;
            int below = 90 + 81 - 4 * k;
            due("behind a change", 1, y.heard(102, k, 0) * below == y.heard(102, k, 1) * above ? 1 : 0);
            due("behind a change, of the other", 1, y.heard(201, k, 0) * below == y.heard(201, k, 1) * above ? 1 : 0);
        }
        y.mend(0, 4, 0);
        for (int k = 0; k <= 9; k++) {
            fraction("behind another", 0, 1, y.heard(102, k, 0), y.heard(102, k, 1));
        }
    }

    /** "SAID plain, a LETTER takes 1; by its WORD, LONG." */
    private static void saidPlain() {
        AsInBertha x = new AsInBertha();
        named(x, 0, 1, 2, 3, 4, 5);
        x.mend(0, 2, 1);
        x.mend(5, 2, 9);
        due("six plain", 6, x.time(0, 0));
        due("the first by a word of 1", 6, x.time(0, 1));
        due("the last by a word of 9", 14, x.time(0, 32));
        due("all by words", 1 + 4 * 3 + 9, x.time(0, 63));
        x.call(0, 1);
        x.say(0, 0);
        due("in deed plain", 1, x.led(2));
        x.say(0, 1);
        due("in deed by a word of 1", 2, x.led(2));
        x.say(5, 1);
        due("in deed by a word of 9", 11, x.led(2));
    }
}
