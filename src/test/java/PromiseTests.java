/** For each promise: ordinary inputs, the edges that the document names, and wrong inputs. */
public final class PromiseTests extends Answers {
    private static final int WILD = 2000000000;

    public static void main(String[] args) {
        constants();
        newObject();
        names();
        mending();
        tape();
        faults();
        laws();
        hearing();
        guessing();
        asking();
        saying();
        confusing();
        figures();
        stopping();
        mailed();
        drawing();
        calling();
        imaging();
        undoing();
        acting();
        shelving();
        shifting();
        taking();
        counting();
        tell();
    }

    private static void constants() {
        due("BAD", -1, AsInBertha.BAD);
        due("NOT", -2, AsInBertha.NOT);
        due("FULL", -3, AsInBertha.FULL);
        due("STATE", -5, AsInBertha.STATE);
        due("VOID", -2000000000, AsInBertha.VOID);
    }

    private static void newObject() {
        AsInBertha x = new AsInBertha();
        for (int what = 0; what < 5; what++) {
            due("1 count " + what, 0, x.count(what));
            due("1 led " + what, 0, x.led(what));
        }
        for (int one = 0; one < 12; one++) {
            for (int other = 0; other < 12; other++) {
                due("1 alike", one == other ? 9 : 0, x.of(100 * one + other, 1));
            }
            due("1 long", 3, x.of(one, 2));
            due("1 clear", 11, x.of(one, 3));
        }
        due("1 bad line", 3, x.of(0, 4));
        due("1 no name", -1, x.of(0, 0));
        due("1 no image", -5, x.back());
        due("1 no undo", -5, x.undo());
        due("1 no redo", -5, x.redo());
        for (int shelf = 0; shelf < 6; shelf++) {
            due("1 shelf", -11, x.taken(shelf, 0));
        }
    }

    private static void names() {
        AsInBertha x = new AsInBertha();
        due("2 nothing there", -11, x.name(0, 1));
        due("2 in ahead of nothing", -1, x.name(0, 7));
        due("2 negative in", -1, x.name(0, -9));
        due("2 wild in", -1, x.name(0, Integer.MIN_VALUE));
        due("2 no shelf", -1, x.name(-1, 1));
        due("2 no shelf", -1, x.name(6, 1));
        x.body(0);
        x.keep(0, 0);
        due("2 a spelling", -12, x.name(0, 1));
        for (int sort = 1; sort < 5; sort++) {
            x.row(0, sort, 6);
            due("2 no bytes", -12, x.name(0, 1));
        }
        bytes(x, 0, 11, 0, 3, 4, 5, 6, 12, -1);
        due("2 six", 0, x.name(0, 6));
        due("2 seven", -1, x.name(0, 7));
        due("2 none", -1, x.name(0, 0));
        due("2 twelve is none", -1, x.name(0, 52));
        due("2 minus one is none", -1, x.name(0, 71));
        due("2 the last letter", 1, x.name(0, 51));
        due("2 lacks", -1, x.name(0, 81));
        due("2 far off", -1, x.name(0, 2147483641));
        due("5 first", 11, x.letter(0, 0));
        due("5 last", 6, x.letter(0, 5));
        due("5 not as many", -2, x.letter(0, 6));
        due("5 not as many", -2, x.letter(1, 1));
        due("5 not as many", -2, x.letter(1, WILD));
        due("5 below", -1, x.letter(0, -1));
        due("5 no name", -1, x.letter(2, 0));
        due("5 no name", -1, x.letter(-1, 0));
        x.put(0, 0, 7);
        due("5 a name is no longer the row's", 11, x.letter(0, 0));
        for (int i = 2; i < 10; i++) {
            due("2 as they come", i, x.name(0, 11));
        }
        due("2 bad ahead of full", -1, x.name(0, 71));
        due("2 full", -3, x.name(0, 11));
        due("2 still ten", 10, x.count(0));
    }

    private static void mending() {
        AsInBertha x = new AsInBertha();
        named(x, 1, 2, 3);
        due("3 known", 1, x.mend(0, 0, 9));
        due("3 known", 9, x.mend(0, 0, 0));
        due("4 known", 0, x.of(0, 0));
        due("4 size", 3, x.of(0, 5));
        due("4 no size", -1, x.of(1, 5));
        due("4 no known", -1, x.of(1, 0));
        due("3 alike", 0, x.mend(1100, 1, 5));
        due("4 as told for the other", 5, x.of(11, 1));
        due("3 alike of the other", 5, x.mend(11, 1, 6));
        due("4 alike", 6, x.of(1100, 1));
        due("3 long", 3, x.mend(11, 2, 9));
        due("3 long", 9, x.mend(11, 2, 1));
        due("3 clear", 11, x.mend(0, 3, 12));
        due("3 clear", 12, x.mend(0, 3, 0));
        due("3 bad line", 3, x.mend(0, 4, 9));
        due("4 long", 1, x.of(11, 2));
        due("4 clear", 0, x.of(0, 3));
        due("4 bad line", 9, x.of(0, 4));
        int[][] bad = {
            {1, 0, 1}, {-1, 0, 1}, {0, 0, 10}, {0, 0, -1},
            {505, 1, 5}, {12, 1, 5}, {1200, 1, 5}, {-1, 1, 5}, {-100, 1, 5}, {1, 1, 10}, {1, 1, -1},
            {12, 2, 3}, {-1, 2, 3}, {0, 2, 0}, {0, 2, 10},
            {12, 3, 3}, {-1, 3, 3}, {0, 3, -1}, {0, 3, 13},
            {1, 4, 3}, {-1, 4, 3}, {0, 4, -1}, {0, 4, 10},
            {0, 5, 3}, {0, -1, 3}, {WILD, 1, 3}, {0, WILD, 3}, {0, 0, WILD}};
        int changes = x.count(2);
        for (int[] b : bad) {
            due("3 bad " + b[0] + " " + b[1] + " " + b[2], -1, x.mend(b[0], b[1], b[2]));
        }
        due("3 bad ones are no changes", changes, x.count(2));
        int[][] badOf = {{12, 1}, {1200, 1}, {-1, 1}, {12, 2}, {12, 3}, {-1, 2}, {1, 4}, {0, 6}, {0, -1}, {WILD, 5}};
        for (int[] b : badOf) {
            due("4 bad " + b[0] + " " + b[1], -1, x.of(b[0], b[1]));
        }
    }

    private static void tape() {
        AsInBertha x = new AsInBertha();
        due("6 below", -1, x.feed(-1));
        due("6 above", -1, x.feed(256));
        for (int i = 1; i <= 120; i++) {
            due("6 how many", i, x.feed(i % 2 == 0 ? '+' : '1'));
        }
        due("6 bad ahead of full", -1, x.feed(256));
        due("6 full", -3, x.feed('1'));
        due("45 tape", 120, x.count(1));
        due("7 ends too early", -220, x.law());
        due("7 empty then", 0, x.count(1));
        due("7 nothing is no text", -100, x.law());
        due("6 zero is a byte", 1, x.feed(0));
        due("6 255 is a byte", 2, x.feed(255));
        due("7 but in no text", -100, x.law());
    }

    private static void faults() {
        String[] fine = {"1", "9999", "0000", "a", "n", "e", "s", "h", "k", "1?2", "1;2", "1?2;3?4;5", "!!!!!!1",
            "------1", "((((((1))))))", "(!(-(!1)))", "1-1", "1--1", "1+-!1", "a<n", "a<n&n<a|a=n", "(a<n)<n",
            "!a<n", "(((((-a-b2".replace("b2", "n") + ")))))", "1*2/3%4"};
        for (String text : fine) {
            due("7 " + text, 1, lawOf(new AsInBertha(), text));
        }
        Object[][] bad = {
            {"", 0}, {"b", 0}, {" 1", 0}, {"1 ", 1}, {"12345", 4}, {"1?", 2}, {"?1", 0}, {"1?2?3", 3}, {"1;", 2},
            {";1", 0}, {"1;;2", 2}, {"a<n<s", 3}, {"a=n>s", 3}, {"a<", 2}, {"a<=n", 2}, {"!!!!!!!1", 6}, {"-------1", 6},
            {"(((((((1)))))))", 6}, {"(!-(!-(1", 6}, {"(1", 2}, {"(1;", 2}, {"1)", 1}, {"()", 1}, {"1+", 2},
            {"+1", 0}, {"1a", 1}, {"a1", 1}, {"aa", 1}, {"a(1)", 1}, {"1||2", 2}, {"1&", 2}, {"1!2", 1}, {"(1?2)", 2},
            {"A", 0}, {"!", 1}, {"((((((1)))))", 12}, {"(1)(", 3}};
        for (Object[] b : bad) {
            due("7 " + b[0], -100 - (Integer) b[1], lawOf(new AsInBertha(), (String) b[0]));
        }
        AsInBertha x = new AsInBertha();
        due("7 the law", 1, lawOf(x, "e*5+1"));
        due("7 a faulty one", -101, lawOf(x, "7)"));
        due("7 leaves the law", 6, x.heard(0, 0, 0));
        due("7 leaves the law", 17, x.heard(0, 0, 1));
    }

    /** The WEIGHT that a text gives 3 heard as 4 (k 2, ALIKE 5, BAD LINE 7), by that of all others, 1. */
    private static void weight(String text, int want) {
        AsInBertha x = new AsInBertha();
        x.mend(304, 1, 5);
        x.mend(0, 4, 7);
        due("7 " + text, 1, lawOf(x, "!(s=3&h=4)?1;" + text));
        long above = x.heard(304, 2, 0);
        long below = x.heard(304, 2, 1);
        due("weight of " + text, want, above * 11 / (below - above));
    }

    private static void laws() {
        weight("a", 5);
        weight("n", 7);
        weight("e", 0);
        weight("s", 3);
        weight("h", 4);
        weight("k", 2);
        weight("99", 99);
        weight("100", 99);
        weight("0-1", 0);
        weight("2+3*4", 14);
        weight("(2+3)*4", 20);
        weight("20-5-3", 12);
        weight("40/3/2", 6);
        weight("43%9*2", 14);
        weight("0-(-43/9)", 4);
        weight("10+-43%9", 3);
        weight("10+43/0", 10);
        weight("10+43%0", 10);
        weight("7+(1|0)", 8);
        weight("7+(0|0)", 7);
        weight("7+(5&3)", 8);
        weight("7+(5&0)", 7);
        weight("1|0&0", 1);
        weight("2+1<3+1", 1);
        weight("3=3&2>1", 1);
        weight("3<3|3>3", 0);
        weight("!0+!5+5", 6);
        weight("--5+!!7", 6);
        weight("-!0+5", 4);
        weight("!(0)*7", 7);
        weight("-a*-a", 25);
        weight("0?5", 0);
        weight("3?5", 5);
        weight("0-3?5", 5);
        weight("0?5;6", 6);
        weight("0?5;1?7;8", 7);
        weight("0?5;0?7", 0);
        weight("9;8", 9);
        weight("9999*9999*9999*9999>0", 9999 * 9999 * 9999 * 9999 > 0 ? 1 : 0);
        weight("(9999*9999*30+9999*9999*30)%97+97", Math.min(99, (9999 * 9999 * 30 + 9999 * 9999 * 30) % 97 + 97));
        weight("1;!(s=3&h=4)", 1);
    }

    private static void hearing() {
        AsInBertha x = new AsInBertha();
        x.mend(102, 1, 6);
        x.mend(103, 1, 1);
        // 36, 18, 3 by 57 at first; 18, 0, 0 by k 9
        fraction("8 itself", 12, 19, x.heard(101, 0, 0), x.heard(101, 0, 1));
        fraction("8 as 2", 6, 19, x.heard(102, 0, 0), x.heard(102, 0, 1));
        fraction("8 as 3", 1, 19, x.heard(103, 0, 0), x.heard(103, 0, 1));
        fraction("8 never", 0, 1, x.heard(104, 0, 0), x.heard(104, 0, 1));
        fraction("8 said twice", 1, 51, x.heard(103, 1, 0), x.heard(103, 1, 1));
        fraction("8 said often", 1, 1, x.heard(101, 9, 0), x.heard(101, 9, 1));
        fraction("8 the other way", 1, 3, x.heard(201, 0, 0), x.heard(201, 0, 1));
        due("8 k", NONE, x.heard(101, 10, 0));
        due("8 k", NONE, x.heard(101, -1, 0));
        due("8 part", NONE, x.heard(101, 0, 2));
        due("8 part", NONE, x.heard(101, 0, -1));
        due("8 s", NONE, x.heard(1200, 0, 0));
        due("8 h", NONE, x.heard(12, 0, 0));
        due("8 below", NONE, x.heard(-1, 0, 0));
        lawOf(x, "0");
        fraction("8 all 0", 1, 1, x.heard(101, 0, 0), x.heard(101, 0, 1));
        fraction("8 all 0", 0, 1, x.heard(102, 0, 0), x.heard(102, 0, 1));
        lawOf(x, "k");
        fraction("8 k counts", 1, 12, x.heard(102, 3, 0), x.heard(102, 3, 1));
        fraction("8 k 0", 1, 1, x.heard(101, 0, 0), x.heard(101, 0, 1));
    }

    /** NAMES 0: 1 2, 1: 2 1, 2: 1, 3: 1 2 (KNOWN 2); a LETTER is heard right by 60 of 100, 1 as 2 by 40. */
    private static AsInBertha simple() {
        AsInBertha x = new AsInBertha();
        named(x, 1, 2);
        named(x, 2, 1);
        named(x, 1);
        named(x, 1, 3);
        x.mend(3, 0, 2);
        x.mend(102, 1, 1);
        lawOf(x, "s=h?6;a*4");
        return x;
    }

    private static void guessing() {
        AsInBertha x = simple();
        bytes(x, 0, 1, 2);
        // 60 * 60, 40 * 40, 0, 2 * 60 * 0
        fraction("9 of 0", 9, 13, x.likely(0, 0, 0), x.likely(0, 0, 1));
        fraction("9 of 1", 4, 13, x.likely(0, 1, 0), x.likely(0, 1, 1));
        fraction("9 of 2", 0, 1, x.likely(0, 2, 0), x.likely(0, 2, 1));
        due("10", 0, x.likeliest(0));
        due("11 9 of 13 is more than 8 of 12", 1, x.sure(0, 8));
        due("11 9 of 13 is not more than 9 of 12", 0, x.sure(0, 9));
        fraction("12 with sum 3", 9, 13, x.check(0, 3, 0), x.check(0, 3, 1));
        due("12 with sum 4: only 3, which it cannot be", -2, x.check(0, 4, 0));
        due("12 with sum 1", -2, x.check(0, 1, 0));
        bytes(x, 0, 2, 3);
        fraction("9 of 3", 1, 1, x.likely(0, 3, 0), x.likely(0, 3, 1));
        bytes(x, 0, 2, 2);
        // 40 * 60, 60 * 40
        due("10 of like ones the least", 0, x.likeliest(0));
        due("11 just 6 of 12", 0, x.sure(0, 6));
        due("11 more than 5 of 12", 1, x.sure(0, 5));
        x.mend(1, 0, 2);
        due("10 by known", 1, x.likeliest(0));
        x.mend(0, 0, 0);
        fraction("9 none known", 0, 1, x.likely(0, 0, 0), x.likely(0, 0, 1));
        bytes(x, 0, 1, 12);
        due("10 a byte that is none", -2, x.likeliest(0));
        bytes(x, 0, 1, -128);
        due("10 a byte that is none", -2, x.likeliest(0));
        bytes(x, 0, 1, 2, 3, 4, 5, 6, 7);
        due("9 too long", -2, x.likely(0, 0, 0));
        due("11 too long", -2, x.sure(0, 0));
        due("12 too long", -2, x.check(0, 3, 0));
        due("13 too long", -2, x.again(0, 2));
        due("24 too long", -2, x.odd(0));
        due("9 part", NONE, x.likely(0, 0, 2));
        due("9 name", NONE, x.likely(0, 4, 0));
        due("9 name", NONE, x.likely(0, -1, 0));
        due("12 sum", NONE, x.check(0, 12, 0));
        due("12 name", NONE, x.check(0, 400, 0));
        due("12 below", NONE, x.check(0, -1, 0));
        due("12 part", NONE, x.check(0, 3, 2));
        due("11 x", -1, x.sure(0, 12));
        due("11 x", -1, x.sure(0, -1));
        due("11 x ahead of nothing", -1, x.sure(1, 12));
        x.body(0);
        x.keep(1, 0);
        x.row(2, 2, 2);
        int[] shelves = {-1, 6, 3, 1, 2};
        int[] refusals = {-1, -1, -11, -12, -12};
        for (int i = 0; i < shelves.length; i++) {
            int s = shelves[i];
            due("9 shelf", NONE, x.likely(s, 0, 0));
            due("10 shelf", refusals[i], x.likeliest(s));
            due("11 shelf", refusals[i], x.sure(s, 0));
            due("12 shelf", NONE, x.check(s, 3, 0));
            due("13 shelf", NONE, x.again(s, 0));
            due("21 shelf", NONE, x.sums(s, 0, 0));
            due("23 shelf", refusals[i], x.who(s));
            due("24 shelf", refusals[i], x.odd(s));
            due("25 shelf", refusals[i], x.fits(s, 0));
        }
        due("25 name ahead of nothing", -1, x.fits(3, 4));
    }

    private static void asking() {
        AsInBertha x = new AsInBertha();
        named(x, 1, 2);
        named(x, 3, 2);
        x.mend(103, 1, 1);
        // right 60, else 40; said once more 80, 20
        lawOf(x, "s=h?6+2*k;a*(4-2*k)");
        bytes(x, 0, 1, 2);
        // PRODUCTS 60 * 100 and 40 * 100; once more at 0: heard 1: 60 * 80, heard 3: 40 * 80
        due("13 place", 0, x.again(0, 2));
        fraction("13", 4, 5, x.again(0, 0), x.again(0, 1));
        bytes(x, 0, 2, 2);
        due("13 cannot be", -2, x.again(0, 0));
        bytes(x, 0, 1, 2);
        due("13 part", NONE, x.again(0, 3));
        due("13 part", NONE, x.again(0, -1));
        AsInBertha y = new AsInBertha();
        named(y, 1, 2);
        named(y, 1, 3);
        y.mend(203, 1, 1);
        lawOf(y, "s=h?6+2*k;a*(4-2*k)");
        bytes(y, 0, 1, 3);
        due("13 the second place", 1, y.again(0, 2));
        AsInBertha z = new AsInBertha();
        named(z, 1, 1);
        bytes(z, 0, 1, 1);
        due("13 of like ones the first", 0, z.again(0, 2));
        fraction("13 sure already", 1, 1, z.again(0, 0), z.again(0, 1));
    }

    private static void saying() {
        AsInBertha x = simple();
        // LETTERS 1, 2 heard right by 60, by WORD (1100 + 60) / 12 = 96; 3 by 100
        fraction("14 plain", 9, 25, x.right(0, 0, 0), x.right(0, 0, 1));
        fraction("14 one word", 72, 125, x.right(0, 1, 0), x.right(0, 1, 1));
        fraction("14 both", 576, 625, x.right(0, 3, 0), x.right(0, 3, 1));
        due("14 set", NONE, x.right(0, 4, 0));
        due("14 set", NONE, x.right(0, -1, 0));
        due("14 name", NONE, x.right(4, 0, 0));
        due("14 part", NONE, x.right(0, 0, 2));
        x.mend(2, 2, 9);
        due("15 plain", 2, x.time(0, 0));
        due("15 first", 4, x.time(0, 1));
        due("15 second", 10, x.time(0, 2));
        due("15 both", 12, x.time(0, 3));
        due("15 set", -1, x.time(0, 4));
        due("15 set", -1, x.time(0, -1));
        due("15 name", -1, x.time(-1, 0));
        // more than x of 12: 36 of 100 is 4.32, 57.6 is 6.912, 92.16 is 11.06
        due("16 plain will do", 0, x.leastSaid(0, 4));
        due("16 the shorter word", 1, x.leastSaid(0, 5));
        due("16 the shorter word, second", 2, x.leastSaid(1, 5));
        due("16 both", 3, x.leastSaid(0, 7));
        due("16 both", 3, x.leastSaid(0, 11));
        x.mend(1, 3, 10);
        due("16 not at all", -2, x.leastSaid(0, 11));
        due("16 x", -1, x.leastSaid(0, 12));
        due("16 x", -1, x.leastSaid(0, -1));
        due("16 name", -1, x.leastSaid(4, 0));
        x.mend(2, 2, 3);
        x.mend(1, 3, 11);
        due("16 of like ones the least bits", 1, x.leastSaid(0, 5));
        x.mend(1, 2, 1);
        due("16 a word as short as its letter", 0, x.leastSaid(0, 4));
        due("16 a word as short as its letter", 1, x.leastSaid(0, 5));
        due("16 two words", 3, x.leastSaid(0, 7));
        due("17 the second is surer", 0, x.worst(3));
        due("17 of like ones the first", 0, x.worst(0));
        due("17 name", -1, x.worst(4));
        due("17 name", -1, x.worst(-1));
        named(x, 3, 1);
        due("17 the second", 1, x.worst(4));
        x.mend(1, 3, 0);
        fraction("14 clear 0", 3, 5, x.right(2, 1, 0), x.right(2, 1, 1));
        x.mend(1, 3, 12);
        fraction("14 clear 12", 1, 1, x.right(2, 1, 0), x.right(2, 1, 1));
    }

    private static void confusing() {
        AsInBertha x = simple();
        fraction("18 both", 4, 25, x.confused(1, 0), x.confused(1, 1));
        fraction("18 never", 0, 1, x.confused(3, 0), x.confused(3, 1));
        due("18 one with itself", NONE, x.confused(0, 0));
        due("18 one with itself", NONE, x.confused(11, 0));
        due("18 unlike lengths", NONE, x.confused(2, 0));
        due("18 no other", NONE, x.confused(4, 0));
        due("18 no one", NONE, x.confused(41, 0));
        due("18 below", NONE, x.confused(-1, 0));
        due("18 above", NONE, x.confused(100, 0));
        due("18 part", NONE, x.confused(1, 2));
        due("19", 1, x.nearest(0));
        due("19", 0, x.nearest(1));
        due("19 none of as many", -2, x.nearest(2));
        due("19 never heard so: the least", 0, x.nearest(3));
        due("19 name", -1, x.nearest(4));
        due("19 name", -1, x.nearest(-1));
        due("20", 1, x.pairs());
        named(x, 2);
        // 1 and 2 alone: 40 of 100 each way, more than 16 of 100
        due("20 the shorter pair", 24, x.pairs());
        due("20 none", -2, new AsInBertha().pairs());
        AsInBertha y = new AsInBertha();
        named(y, 1);
        due("20 one alone", -2, y.pairs());
        named(y, 1, 1);
        due("20 of unlike lengths", -2, y.pairs());
        named(y, 1, 2);
        named(y, 2, 2);
        due("20 never heard so: the first", 12, y.pairs());
        // only 3 is heard as 2: one way counts too
        named(y, 1, 3);
        lawOf(y, "e+(s=3&h=2)");
        due("20 one way", 24, y.pairs());
        fraction("18 one way", 1, 2, y.confused(42, 0), y.confused(42, 1));
        fraction("18 not the other", 0, 1, y.confused(24, 0), y.confused(24, 1));
        due("19 one way", 1, y.nearest(2));
        due("19 the other", 2, y.nearest(4));
    }

    private static void figures() {
        AsInBertha x = new AsInBertha();
        x.mend(102, 1, 1);
        x.mend(203, 1, 1);
        // said 1: right 60, as 2 40; said 2: 42, as 1 28, as 3 28; said 3: right 60, as 2 40
        lawOf(x, "s=h?6;a*4");
        bytes(x, 0, 2);
        fraction("21 one", 20, 61, x.sums(0, 1, 0), x.sums(0, 1, 1));
        fraction("21 two", 21, 61, x.sums(0, 2, 0), x.sums(0, 2, 1));
        fraction("21 four", 0, 1, x.sums(0, 4, 0), x.sums(0, 4, 1));
        bytes(x, 0, 2, 2);
        // 2 * 40 * 40 and 42 * 42 of 122 * 122
        fraction("21 sum 4", 1241, 3721, x.sums(0, 4, 0), x.sums(0, 4, 1));
        bytes(x, 0, 5, 5, 5, 5, 9);
        fraction("21 four at most count", 1, 1, x.sums(0, 20, 0), x.sums(0, 20, 1));
        bytes(x, 0, 11, 11, 11, 11);
        fraction("21 forty-four", 1, 1, x.sums(0, 44, 0), x.sums(0, 44, 1));
        bytes(x, 0, 5, 12, 5);
        fraction("21 one that is none ends it", 1, 1, x.sums(0, 5, 0), x.sums(0, 5, 1));
        bytes(x, 0, -1, 5);
        fraction("21 none at all", 1, 1, x.sums(0, 0, 0), x.sums(0, 0, 1));
        due("21 x", NONE, x.sums(0, 45, 0));
        due("21 x", NONE, x.sums(0, -1, 0));
        due("21 part", NONE, x.sums(0, 0, 2));
        lawOf(x, "h=0");
        bytes(x, 0, 0, 5);
        due("21 cannot be so", -2, x.sums(0, 5, 0));
        bytes(x, 0, 0);
        fraction("21 any", 1, 12, x.sums(0, 11, 0), x.sums(0, 11, 1));
    }

    private static void stopping() {
        AsInBertha x = simple();
        named(x, 3, 3, 1, 3, 3);
        // 2 more said for sure, or 40 of 100 times what is left and c
        due("22 40 of 100 times 5 is no more than 2", -2, x.stop(2, 4));
        due("22 40 of 100 times 6 is", 0, x.stop(2, 5));
        due("22 the third", 2, x.stop(4, 3));
        due("22 none: 40 of 100 times 3 and 2", -2, x.stop(4, 2));
        due("22 surely heard", -2, x.stop(3, 0));
        due("22 c 99", 0, x.stop(0, 99));
        x.mend(1, 2, 1);
        due("22 a word as short as its letter", 0, x.stop(2, 0));
        x.mend(3, 2, 1);
        due("22 but not where it is surely heard", 2, x.stop(4, 0));
        due("22 c", -1, x.stop(0, 100));
        due("22 c", -1, x.stop(0, -1));
        due("22 name", -1, x.stop(5, 0));
        due("22 name", -1, x.stop(-1, 0));
    }

    private static void mailed() {
        AsInBertha x = simple();
        bytes(x, 0, 2, 2);
        due("23 who", 3, x.who(0));
        x.mend(0, 0, 0);
        due("23 known or not", 3, x.who(0));
        due("24 odd", 1, x.odd(0));
        bytes(x, 0, 1, 2);
        due("24 by known the other", 2, x.odd(0));
        x.mend(0, 0, 1);
        due("24 none odd", 0, x.odd(0));
        bytes(x, 0, 1, 5);
        due("24 none can be so", -2, x.odd(0));
        due("23 none", 0, x.who(0));
        due("25 the second", 1, x.fits(0, 0));
        due("25 the second is too much", 1, x.fits(0, 2));
        bytes(x, 0, 5, 1, 2);
        due("25 the first, though too long", 0, x.fits(0, 0));
        bytes(x, 0, 1);
        due("25 the second lacks", 1, x.fits(0, 0));
        due("25 it fits", -2, x.fits(0, 2));
        due("23 the short one", 4, x.who(0));
        x.row(0, 0, 0);
        due("25 all lacks", 0, x.fits(0, 0));
        bytes(x, 0, 1, 12);
        due("25 no letter", 1, x.fits(0, 0));
        due("25 name", -1, x.fits(0, 4));
        due("25 name", -1, x.fits(0, -1));
    }

    private static void drawing() {
        AsInBertha x = simple();
        int z = -77;
        int right = 0;
        int wrongLetters = 0;
        for (int i = 0; i < 30; i++) {
            z = next(z);
            boolean first = (z >>> 8) % 10 < 6;
            z = next(z);
            // WEIGHTS of 2: 4 for 1, then 6 for 2
            boolean second = (z >>> 8) % 10 >= 4;
            right += first && second ? 1 : 0;
            wrongLetters += (first ? 0 : 1) + (second ? 0 : 1);
        }
        due("26 right", right, x.drawn(-77, 30, 0));
        due("26 wrong", wrongLetters, x.drawn(-77, 30, 1));
        due("26 no times", -1, x.drawn(1, 0, 0));
        due("26 too often", -1, x.drawn(1, 31, 0));
        due("26 no name", -1, x.drawn(1, 401, 0));
        due("26 below", -1, x.drawn(1, -1, 0));
        due("26 what", -1, x.drawn(1, 1, 2));
        due("26 what", -1, x.drawn(1, 1, -1));
        // 3 without weights takes no draw
        lawOf(x, "s=3?0;s=h?6;a*4");
        z = 5;
        right = 0;
        for (int i = 0; i < 20; i++) {
            z = next(z);
            right += (z >>> 8) % 10 < 6 ? 1 : 0;
        }
        due("26 no draw if all are 0", right, x.drawn(5, 320, 0));
        due("26 no draw if all are 0", 20 - right, x.drawn(5, 320, 1));
    }

    private static void calling() {
        AsInBertha x = simple();
        due("28 none is on", -5, x.say(0, 0));
        due("28 bad ahead of that", -1, x.say(-1, 0));
        due("28 bad ahead of that", -1, x.say(0, 2));
        due("29 none is on", -5, x.noted(5));
        due("29 bad ahead of that", -1, x.noted(-1));
        due("30 none is on", -5, x.hang());
        due("27 name", -1, x.call(4, 1));
        due("27 name", -1, x.call(-1, 1));
        due("27", 2, x.call(0, 1));
        due("27 bad ahead of state", -1, x.call(4, 1));
        due("27 one is on", -5, x.call(1, 1));
        due("28 place", -1, x.say(2, 0));
        due("28 place", -1, x.say(-1, 0));
        due("28 by", -1, x.say(0, 2));
        due("28 by", -1, x.say(0, -1));
        due("29 nothing yet", -2, x.noted(0));
        due("29 place", -1, x.noted(2));
        lawOf(x, "h=s+k+1");
        due("28 by the law, k 0", 2, x.say(0, 0));
        due("31 wrong", 1, x.led(4));
        due("28 k 1", 3, x.say(0, 0));
        due("29 the latest", 3, x.noted(0));
        due("28 k of the other place", 3, x.say(1, 0));
        due("31 both wrong", 2, x.led(4));
        for (int k = 2; k <= 9; k++) {
            due("28 k " + k, k == 9 ? 11 : k + 2, x.say(0, 0));
        }
        due("28 k 9 at most", 11, x.say(0, 0));
        due("31 said", 12, x.led(3));
        due("31 time", 12, x.led(2));
        x.mend(1, 3, 12);
        x.mend(1, 2, 7);
        x.mend(2, 3, 12);
        due("28 by a clear word", 1, x.say(0, 1));
        due("31 its time", 19, x.led(2));
        due("30 the other is wrong", 0, x.hang());
        due("31 calls", 1, x.led(0));
        due("31 right ones", 0, x.led(1));
        due("31 none is on", 0, x.led(3));
        due("31 none is on", 0, x.led(4));
        x.call(0, 1);
        due("29 noted anew", -2, x.noted(0));
        due("28 by a clear word", 1, x.say(0, 1));
        due("30 one is not noted", 0, x.hang());
        x.call(0, 1);
        x.say(0, 1);
        x.say(1, 1);
        due("30 all right", 1, x.hang());
        due("31 calls", 3, x.led(0));
        due("31 right ones", 1, x.led(1));
        due("31 time", 43 - 7, x.led(2));
        due("31 what", -1, x.led(5));
        due("31 what", -1, x.led(-1));
        wordDraws();
    }

    /** A WORD takes a draw of twelve; one that fails takes another as if said plain. */
    private static void wordDraws() {
        AsInBertha x = simple();
        x.mend(1, 3, 5);
        int z = 99;
        x.call(0, z);
        for (int i = 0; i < 40; i++) {
            int heard = 1;
            z = next(z);
            if ((z >>> 8) % 12 >= 5) {
                z = next(z);
                heard = (z >>> 8) % 10 < 6 ? 1 : 2;
            }
            due("28 word " + i, heard, x.say(0, 1));
            z = next(z);
            due("28 plain " + i, (z >>> 8) % 10 < 4 ? 1 : 2, x.say(1, 0));
        }
        lawOf(x, "0");
        due("28 no draw", 2, x.say(1, 0));
        lawOf(x, "s=h?6;a*4");
        z = next(z);
        due("28 after none", (z >>> 8) % 10 < 4 ? 1 : 2, x.say(1, 0));
    }

    private static void imaging() {
        AsInBertha x = simple();
        due("33 there is none", -5, x.back());
        x.call(2, 3);
        x.hang();
        x.call(0, 12345);
        x.say(0, 0);
        due("32", 1, x.image());
        int[] ahead = {x.led(1), x.led(2), x.led(3), x.led(4), x.noted(0)};
        int[] draws = new int[12];
        for (int i = 0; i < 12; i++) {
            draws[i] = x.say(1, i % 2);
        }
        x.hang();
        x.mend(0, 4, 8);
        named(x, 4);
        for (int round = 0; round < 2; round++) {
            due("33", 1, x.back());
            int[] now = {x.led(1), x.led(2), x.led(3), x.led(4), x.noted(0)};
            for (int i = 0; i < 5; i++) {
                due("33 laid back " + i, ahead[i], now[i]);
            }
            due("33 nothing noted then", -2, x.noted(1));
            for (int i = 0; i < 12; i++) {
                due("33 the draws go on " + i, draws[i], x.say(1, i % 2));
            }
        }
        due("33 no change is undone", 8, x.of(0, 4));
        due("33 no name is lost", 5, x.count(0));
        x.hang();
        due("32 without a call", 2, x.image());
        x.call(0, 1);
        due("33 without a call", 2, x.back());
        due("33 none is on", -5, x.hang());
    }

    private static void undoing() {
        AsInBertha x = simple();
        while (x.undo() >= 0) {
            due("34 of the first changes", 1, 1);
        }
        due("34 known", 1, x.of(3, 0));
        due("34 alike", 0, x.of(201, 1));
        due("35", 1, x.redo());
        due("35 known", 2, x.of(3, 0));
        due("35 the last", 0, x.redo());
        due("35 alike", 1, x.of(201, 1));
        due("35 none", -5, x.redo());
        x.mend(5, 2, 9);
        x.mend(6, 3, 0);
        x.mend(0, 4, 0);
        due("45 may be undone", 5, x.count(2));
        due("34", 4, x.undo());
        due("34 bad line", 3, x.of(0, 4));
        due("34", 3, x.undo());
        due("34 clear", 11, x.of(6, 3));
        due("3 the same number", 3, x.mend(0, 4, 3));
        due("45 is no change", 3, x.count(2));
        due("35 and ends nothing", 1, x.redo());
        due("35 clear", 0, x.of(6, 3));
        x.mend(7, 2, 8);
        due("35 another came behind", -5, x.redo());
        due("34", 4, x.undo());
        due("34 long", 3, x.of(7, 2));
        AsInBertha y = new AsInBertha();
        for (int i = 0; i < 45; i++) {
            y.mend(0, 4, i % 2);
        }
        due("45 forty at most", 40, y.count(2));
        for (int i = 39; i >= 0; i--) {
            due("34 of forty", i, y.undo());
        }
        due("34 forty at most", -5, y.undo());
        due("34 the fifth stays", 0, y.of(0, 4));
        for (int i = 39; i >= 0; i--) {
            due("35 of forty", i, y.redo());
        }
        due("35 forty at most", -5, y.redo());
        due("35 all again", 0, y.of(0, 4));
        hearsAfterUndo();
    }

    private static void hearsAfterUndo() {
        AsInBertha x = new AsInBertha();
        x.mend(102, 1, 9);
        fraction("8", 4, 7, x.heard(101, 0, 0), x.heard(101, 0, 1));
        x.undo();
        fraction("8 undone", 1, 1, x.heard(101, 0, 0), x.heard(101, 0, 1));
        fraction("8 undone, the other", 1, 1, x.heard(202, 0, 0), x.heard(202, 0, 1));
        x.redo();
        fraction("8 again", 4, 7, x.heard(202, 0, 0), x.heard(202, 0, 1));
        x.mend(0, 4, 1);
        fraction("8 a better line", 2, 3, x.heard(101, 0, 0), x.heard(101, 0, 1));
        x.undo();
        fraction("8 undone", 4, 7, x.heard(101, 0, 0), x.heard(101, 0, 1));
    }

    private static void acted(AsInBertha x, int body, int act, int v, int want, int... bodies) {
        due("37 act " + body + " " + act, want, x.act(body, act, v));
        due("45 ran", bodies.length, x.count(4));
        for (int i = 0; i < bodies.length; i++) {
            due("38 trace of " + body + " " + act + " at " + i, bodies[i], x.trace(i));
        }
        due("38 no more", -1, x.trace(bodies.length));
    }

    private static void acting() {
        AsInBertha x = new AsInBertha();
        due("38 none yet", -1, x.trace(0));
        due("36 kind", -1, x.body(8));
        due("36 kind", -1, x.body(-1));
        for (int kind = 0; kind < 8; kind++) {
            due("36", kind, x.body(kind));
        }
        acted(x, 0, 0, 5, 5, 1);
        acted(x, 0, 1, 5, 10, 10, 1);
        acted(x, 0, 2, 5, 5, 11);
        acted(x, 0, 3, 5, 10 - 1, 2, 10, 1, 11);
        acted(x, 1, 0, 5, 9, 20, 1);
        acted(x, 1, 1, 5, 18, 10, 20, 1);
        acted(x, 1, 2, 5, 4, 11);
        acted(x, 1, 3, 5, 18, 2, 10, 20, 1, 11);
        acted(x, 2, 0, 5, 7, 1);
        acted(x, 2, 1, 5, -14, 30, 10, 1);
        acted(x, 2, 3, 5, -14 - 3, 2, 30, 10, 1, 11);
        acted(x, 3, 1, 5, -18, 41, 30, 10, 1);
        acted(x, 3, 2, 5, 18, 40, 11);
        acted(x, 3, 3, 5, -18 - 6, 2, 41, 30, 10, 1, 40, 11);
        acted(x, 4, 0, 5, 12, 20, 1);
        acted(x, 4, 2, 5, 1 - 9, 50, 11, 20, 1);
        acted(x, 4, 3, 5, 24 - (5 - 9), 2, 10, 20, 1, 50, 11, 20, 1);
        acted(x, 5, 1, 5, -22, 41, 30, 10, 1);
        acted(x, 5, 2, 4, 3, 40, 11);
        acted(x, 5, 3, 5, (-22 - 12) ^ 5, 60, 2, 41, 30, 10, 1, 40, 11);
        acted(x, 6, 0, 5, 22, 70, 1);
        acted(x, 6, 1, 5, 44, 10, 70, 1);
        acted(x, 6, 3, 5, 44 - 7, 2, 10, 70, 1, 11);
        acted(x, 7, 0, 5, 15, 20, 1);
        acted(x, 7, 1, 5, 30 + 5 - 12, 80, 10, 20, 1, 50, 11, 20, 1);
        acted(x, 7, 2, 5, 2 - 12, 50, 11, 20, 1);
        acted(x, 7, 3, 5, 23 - (6 - 12) - 1, 81, 2, 80, 10, 20, 1, 50, 11, 20, 1, 50, 11, 20, 1);
        acted(x, 1, 0, Integer.MAX_VALUE, Integer.MAX_VALUE + 4, 20, 1);
        due("38 below", -1, x.trace(-1));
        due("37 no such spelling", 0, x.act(8, 0, 5));
        due("45 no trace then", 0, x.count(4));
        due("38 no trace then", -1, x.trace(0));
        x.act(0, 0, 1);
        due("37 no such act", 0, x.act(0, 4, 5));
        due("45 no trace then", 0, x.count(4));
        x.act(0, 0, 1);
        due("37 no such act", 0, x.act(0, -1, 5));
        due("37 no such spelling", 0, x.act(-1, 0, 5));
        for (int i = 8; i < 50; i++) {
            due("36", i, x.body(i % 8));
        }
        due("36 bad ahead of full", -1, x.body(8));
        due("36 full", -3, x.body(0));
        due("45 bodies", 50, x.count(3));
        acted(x, 49, 0, 5, 57, 20, 1);
    }

    private static void shelving() {
        AsInBertha x = new AsInBertha();
        due("39 nothing", 1, x.keep(0, -1));
        due("39 no body", -1, x.keep(0, 0));
        due("39 no body", -1, x.keep(0, -2));
        due("39 no shelf", -1, x.keep(6, -1));
        due("39 no shelf", -1, x.keep(-1, -1));
        due("40 shelf", -1, x.row(6, 0, 1));
        due("40 shelf", -1, x.row(-1, 0, -1));
        due("40 sort", -1, x.row(0, 5, 1));
        due("40 sort", -1, x.row(0, -1, -1));
        due("40 above 60", -1, x.row(0, 0, 61));
        due("40 below 0", -14, x.row(0, 0, -1));
        due("40 changes nothing", -11, x.put(0, 0, 1));
        due("40 sixty", 1, x.row(0, 3, 60));
        due("41 the last", 1, x.put(0, 59, Long.MAX_VALUE));
        due("42 the last", Long.MAX_VALUE, x.element(0, 59));
        due("41 behind it", -13, x.put(0, 60, 1));
        due("41 below", -13, x.put(0, -1, 1));
        due("42 behind it", NONE, x.element(0, 60));
        due("42 below", NONE, x.element(0, -1));
        due("42 nothing", NONE, x.element(1, 0));
        due("42 no shelf", NONE, x.element(6, 0));
        due("41 nothing", -11, x.put(1, 0, 1));
        due("41 no shelf", -1, x.put(6, 0, 1));
        due("40 none", 1, x.row(0, 3, 0));
        due("41 none there", -13, x.put(0, 0, 1));
        due("40 anew", 1, x.row(0, 3, 60));
        due("42 0 at first", 0, x.element(0, 59));
        long v = 0x123456789abcdef0L;
        long[] cut = {(byte) v, (short) v, (int) v, v, 1};
        for (int sort = 0; sort < 5; sort++) {
            x.row(0, sort, 3);
            x.put(0, 1, v);
            due("41 cut " + sort, cut[sort], x.element(0, 1));
            x.put(0, 1, -1);
            due("41 minus one " + sort, sort == 4 ? 1 : -1, x.element(0, 1));
            x.put(0, 1, 256);
            due("41 256 " + sort, sort == 4 ? 1 : sort == 0 ? 0 : 256, x.element(0, 1));
            due("42 ahead " + sort, 0, x.element(0, 0));
            due("42 behind " + sort, 0, x.element(0, 2));
            x.put(0, 1, 0);
            due("41 none " + sort, 0, x.element(0, 1));
        }
        x.body(3);
        due("39 a spelling", 1, x.keep(0, 0));
        due("41 a spelling", -12, x.put(0, 0, 1));
        due("42 a spelling", NONE, x.element(0, 0));
        due("39 no body leaves it", -1, x.keep(0, 1));
        due("44", 3, x.taken(0, 3));
        due("39 nothing again", 1, x.keep(0, -1));
        due("44", -11, x.taken(0, 3));
    }

    private static void shifting() {
        AsInBertha x = new AsInBertha();
        bytes(x, 0, 1, 2, 3, 4, 5);
        bytes(x, 1, 9, 9, 9);
        x.row(2, 1, 5);
        x.body(0);
        x.keep(3, 0);
        due("43 to another", 2, x.shift(0, 1, 1, 1, 2));
        due("43 to another", 9, x.element(1, 0));
        due("43 to another", 2, x.element(1, 1));
        due("43 to another", 3, x.element(1, 2));
        due("43 on", 4, x.shift(0, 0, 0, 1, 4));
        int[] on = {1, 1, 2, 3, 4};
        for (int i = 0; i < 5; i++) {
            due("43 on", on[i], x.element(0, i));
        }
        due("43 back", 3, x.shift(0, 2, 0, 0, 3));
        int[] back = {2, 3, 4, 3, 4};
        for (int i = 0; i < 5; i++) {
            due("43 back", back[i], x.element(0, i));
        }
        due("43 none", 0, x.shift(0, 5, 1, 3, 0));
        due("43 no place for none", -13, x.shift(0, 6, 1, 3, 0));
        due("43 no place for none", -13, x.shift(0, 5, 1, 4, 0));
        due("43 too many", -13, x.shift(0, 0, 1, 0, 4));
        due("43 too many", -13, x.shift(0, 3, 1, 0, 3));
        due("43 too far", -13, x.shift(0, 0, 1, 1, 3));
        due("43 below", -13, x.shift(0, -1, 1, 0, 1));
        due("43 below", -13, x.shift(0, 0, 1, -1, 1));
        due("43 less than none", -13, x.shift(0, 0, 1, 0, -1));
        due("43 wild", -13, x.shift(0, Integer.MAX_VALUE, 1, 0, 1));
        due("43 wild", -13, x.shift(0, 1, 1, 0, Integer.MAX_VALUE));
        due("43 wild", -13, x.shift(0, 1, 1, 0, Integer.MIN_VALUE));
        due("43 unlike sorts", -12, x.shift(0, 0, 2, 0, 1));
        due("43 no row", -12, x.shift(0, 0, 3, 0, 1));
        due("43 no row", -12, x.shift(3, 0, 0, 0, 1));
        due("43 unlike ahead of place", -12, x.shift(0, 9, 2, 0, 1));
        due("43 nothing", -11, x.shift(4, 0, 0, 0, 1));
        due("43 nothing", -11, x.shift(3, 0, 4, 0, 1));
        due("43 no shelf", -1, x.shift(6, 0, 4, 0, 1));
        due("43 no shelf", -1, x.shift(4, 0, -1, 0, 1));
        for (int i = 0; i < 5; i++) {
            due("43 nothing changed", back[i], x.element(0, i));
        }
    }

    private static void taking() {
        AsInBertha x = new AsInBertha();
        boolean[][] under = new boolean[8][8];
        int[] above = {-1, 0, 0, 2, 1, 3, 0, 4};
        for (int kind = 0; kind < 8; kind++) {
            for (int k = kind; k >= 0; k = above[k]) {
                under[kind][k] = true;
            }
            x.body(kind);
            x.keep(0, kind);
            for (int k = 0; k < 8; k++) {
                due("44 " + kind + " for " + k, under[kind][k] ? kind : -12, x.taken(0, k));
            }
        }
        due("44 kind", -1, x.taken(0, 8));
        due("44 kind", -1, x.taken(0, -1));
        due("44 kind ahead of nothing", -1, x.taken(1, 8));
        due("44 shelf", -1, x.taken(6, 0));
        due("44 nothing", -11, x.taken(1, 0));
        x.row(1, 0, 1);
        due("44 a row", -12, x.taken(1, 0));
    }

    private static void counting() {
        AsInBertha x = simple();
        x.feed(1);
        x.feed(2);
        x.body(7);
        x.act(0, 3, 1);
        int[] counts = {4, 2, 2, 1, 14};
        for (int what = 0; what < 5; what++) {
            due("45 " + what, counts[what], x.count(what));
        }
        due("45 what", -1, x.count(5));
        due("45 what", -1, x.count(-1));
    }
}
