/** What the tests share: shelves in known states, texts that are carried out, and lines as texts. */
abstract class Trial {
    static final int NONE = -11;
    static final int BAD = -12;
    static final int FULL = -13;
    static final int REFUSED = -14;
    static final int NOTHING = -15;
    static final int MIN = Integer.MIN_VALUE;
    static final int MAX = Integer.MAX_VALUE;
    static final int[] WRONG_WEIGHTS = {-1, 32, 64, MIN, MAX};
    static final int[] WRONG_ROWS = {-1, 5, 64, MIN, MAX};
    static final Checks CHECKS = new Checks();

    /** Shelves with letters of these weights. */
    static LetterShelves with(int... weights) {
        LetterShelves x = new LetterShelves();
        for (int weight : weights) {
            x.put(weight);
        }
        return x;
    }

    /** Shelves with so many letters, all of a weight. */
    static LetterShelves alike(int letters, int weight) {
        LetterShelves x = new LetterShelves();
        for (int place = 0; place < letters; place++) {
            x.put(weight);
        }
        return x;
    }

    /** Shelves with so many letters, the weights of which are unlike until they have all been there. */
    static LetterShelves mixed(int letters) {
        LetterShelves x = new LetterShelves();
        for (int place = 0; place < letters; place++) {
            x.put(mixedWeight(place));
        }
        return x;
    }

    static int mixedWeight(int place) {
        return place * 5 % 32;
    }

    static LetterShelves full() {
        return mixed(64);
    }

    /** Shelves with these letters, at which these places are marked. */
    static LetterShelves marked(LetterShelves x, int... places) {
        for (int place : places) {
            x.mark(place, true);
        }
        return x;
    }

    static void write(LetterShelves x, String text) {
        for (int index = 0; index < text.length(); index++) {
            x.append(text.charAt(index));
        }
    }

    static int run(LetterShelves x, String text) {
        write(x, text);
        return x.run();
    }

    static String line(LetterShelves x, int size) {
        StringBuilder line = new StringBuilder();
        for (int index = 0; index < size; index++) {
            line.append((char) x.character(index));
        }
        return line.toString();
    }

    static String told(LetterShelves x) {
        return line(x, x.tell());
    }

    static String toldRow(LetterShelves x, int row) {
        return line(x, x.tellRow(row));
    }

    /** Checks the latest reason and its detail. */
    static void reasonIs(LetterShelves x, int reason, int detail) {
        CHECKS.same("reason", x.reason(false), reason);
        CHECKS.same("detail", x.reason(true), detail);
    }

    /** Checks that nothing was refused. */
    static void noReason(LetterShelves x) {
        reasonIs(x, NOTHING, NOTHING);
    }
}
