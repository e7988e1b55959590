/** What tests have in common: answers that are due, rows of letters, laws as texts. */
class Answers {
    static final long NONE = Long.MIN_VALUE;
    static final int BAD = -1, NOT = -2, FULL = -3, STATE = -5;
    static final int NOTHING = -11, UNLIKE = -12, NO_PLACE = -13, NO_SIZE = -14;
    private static int wrong = 0;
    private static int asked = 0;

    static void due(String what, long want, long got) {
        asked++;
        if (got != want) {
            wrong++;
            System.out.println(what + " answered " + got + ", due is " + want);
        }
    }

    static void fraction(String what, long above, long below, long gotAbove, long gotBelow) {
        due(what + " above", above, gotAbove);
        due(what + " below", below, gotBelow);
    }

    /** The last call of a test's main method. */
    static void tell() {
        System.out.println(wrong == 0 ? asked + " answers are as due" : wrong + " answers are not as due");
        if (wrong != 0) {
            System.exit(1);
        }
    }

    static void bytes(AsInBertha x, int shelf, int... letters) {
        x.row(shelf, 0, letters.length);
        for (int i = 0; i < letters.length; i++) {
            x.put(shelf, i, letters[i]);
        }
    }

    /** By SHELF 5. */
    static int named(AsInBertha x, int... letters) {
        bytes(x, 5, letters);
        return x.name(5, letters.length);
    }

    static void fed(AsInBertha x, String text) {
        for (int i = 0; i < text.length(); i++) {
            x.feed(text.charAt(i));
        }
    }

    static int lawOf(AsInBertha x, String text) {
        fed(x, text);
        return x.law();
    }

    static int next(int z) {
        return z * 1103515245 + 12345;
    }
}
