/** The edges that the document names of the parts: promises 15 to 21, "Parts" and "In doubt" of them. */
final class PartsEdgesTest extends Trial {
    /** Calls that ask a part for something. */
    private interface Ask {
        int of(LetterShelves x, int from, int to);
    }

    private static final int[] SIZES = {0, 1, 2, 8, 63, 64};

    private PartsEdgesTest() {
    }

    public static void main(String[] args) {
        partsThatAreThere();
        partsFromBelowNone();
        partsBeyondTheLetters();
        partsTheWrongWay();
        partsWithoutLetters();
        partsAsOfNow();
        quantilePlaces();
        quantileNoPlace();
        countWeights();
        countLetters();
        lighterWeights();
        lighterLetters();
        atLeastWeights();
        atLeastNothing();
        atLeastAlone();
        partFirst();
        findWeights();
        findNumbers();
        findNothing();
        findBelowNone();
        findBadFirst();
        commonPlaces();
        commonNoPlace();
        commonOrder();
        CHECKS.end();
    }

    /** Asks each of the calls of a part, with numbers that are right for it whatever the part is. */
    private static void askAll(String part, LetterShelves x, int from, int to, int[] due) {
        Ask[] calls = {(y, a, b) -> y.quantile(a, b, 0), (y, a, b) -> y.quantileAgain(a, b, 0),
            (y, a, b) -> y.count(a, b, 7), (y, a, b) -> y.lighter(a, b, 8), (y, a, b) -> y.atLeast(a, b, 7),
            (y, a, b) -> y.common(a, b, 0)};
        String[] names = {"quantile", "quantileAgain", "count", "lighter", "atLeast", "common"};
        for (int call = 0; call < calls.length; call++) {
            CHECKS.same(names[call] + " of " + part + " " + from + " to " + to, calls[call].of(x, from, to), due[call]);
        }
    }

    private static void noPart(String part, LetterShelves x, int from, int to) {
        askAll(part, x, from, to, new int[] {NONE, NONE, NONE, NONE, NONE, NONE});
    }

    private static void partsThatAreThere() {
        CHECKS.begin("In doubt: a part is there from 0 on, to at most how many letters there are");
        for (int size : new int[] {1, 2, 8, 63, 64}) {
            LetterShelves x = alike(size, 7);
            for (int[] part : new int[][] {{0, size}, {0, 1}, {size - 1, size}}) {
                int letters = part[1] - part[0];
                askAll("the part", x, part[0], part[1], new int[] {7, 7, letters, letters, 7, 7});
            }
        }
    }

    private static void partsFromBelowNone() {
        CHECKS.begin("In doubt: its first place is from 0 on");
        for (int size : SIZES) {
            LetterShelves x = alike(size, 7);
            for (int from : new int[] {-1, -2, -64, MIN, MIN + 1}) {
                noPart("no part", x, from, size);
                noPart("no part", x, from, 0);
                noPart("no part", x, from, from);
            }
        }
    }

    private static void partsBeyondTheLetters() {
        CHECKS.begin("In doubt: its second one at most how many letters there are");
        for (int size : SIZES) {
            LetterShelves x = alike(size, 7);
            for (int to : new int[] {size + 1, size + 2, 65, 128, MAX}) {
                noPart("no part", x, 0, to);
                noPart("no part", x, size, to);
                noPart("no part", x, to, to);
                noPart("no part", x, MIN, to);
            }
        }
    }

    private static void partsTheWrongWay() {
        CHECKS.begin("In doubt: the first not above the second");
        for (int size : new int[] {1, 2, 8, 63, 64}) {
            LetterShelves x = alike(size, 7);
            noPart("no part", x, size, size - 1);
            noPart("no part", x, 1, 0);
            noPart("no part", x, size, 0);
            noPart("no part", x, MAX, 0);
            noPart("no part", x, MAX, MIN);
            noPart("no part", x, 0, -1);
            noPart("no part", x, 0, MIN);
        }
    }

    private static void partsWithoutLetters() {
        CHECKS.begin("In doubt: a part without letters is one");
        for (int size : SIZES) {
            LetterShelves x = alike(size, 7);
            for (int place : new int[] {0, size / 2, size}) {
                askAll("none", x, place, place, new int[] {NONE, NONE, 0, 0, NOTHING, NONE});
            }
        }
    }

    private static void partsAsOfNow() {
        CHECKS.begin("Parts: as of the places now");
        LetterShelves x = with(7, 7, 7);
        askAll("the part", x, 2, 3, new int[] {7, 7, 1, 1, 7, 7});
        x.take(0);
        noPart("no part", x, 2, 3);
        askAll("the part", x, 1, 2, new int[] {7, 7, 1, 1, 7, 7});
        x.insert(1, 9);
        askAll("the part", x, 1, 2, new int[] {9, 9, 0, 0, 9, 9});
        x.undo();
        noPart("no part", x, 2, 3);
    }

    private static void quantilePlaces() {
        CHECKS.begin("Promises 15, 16: the place by size, from 0");
        for (int letters : new int[] {1, 2, 31, 32}) {
            LetterShelves x = new LetterShelves();
            x.put(0);
            for (int place = 0; place < letters; place++) {
                x.put(31 - place);
            }
            x.put(31);
            for (int place = 0; place < letters; place++) {
                int due = 32 - letters + place;
                CHECKS.same("quantile at " + place, x.quantile(1, letters + 1, place), due);
                CHECKS.same("quantileAgain at " + place, x.quantileAgain(1, letters + 1, place), due);
            }
        }
        LetterShelves x = full();
        for (int place = 0; place < 64; place++) {
            CHECKS.same("quantile of 64 at " + place, x.quantile(0, 64, place), place / 2);
            CHECKS.same("quantileAgain of 64 at " + place, x.quantileAgain(0, 64, place), place / 2);
            CHECKS.same("quantile of one", x.quantile(place, place + 1, 0), mixedWeight(place));
            CHECKS.same("quantileAgain of one", x.quantileAgain(place, place + 1, 0), mixedWeight(place));
        }
    }

    private static void quantileNoPlace() {
        CHECKS.begin("Promises 15, 16: NONE if there is no such place");
        LetterShelves x = full();
        for (int[] part : new int[][] {{0, 64}, {0, 63}, {1, 64}, {5, 6}, {5, 8}, {63, 64}, {64, 64}, {0, 0}}) {
            int letters = part[1] - part[0];
            for (int wrong : new int[] {-1, letters, letters + 1, 64, MIN, MAX}) {
                CHECKS.same("quantile at " + wrong, x.quantile(part[0], part[1], wrong), NONE);
                CHECKS.same("quantileAgain at " + wrong, x.quantileAgain(part[0], part[1], wrong), NONE);
            }
        }
    }

    private static void countWeights() {
        CHECKS.begin("Promise 17: BAD if the weight is out of range");
        LetterShelves x = with(0, 31);
        CHECKS.same("count of 0", x.count(0, 2, 0), 1);
        CHECKS.same("count of 31", x.count(0, 2, 31), 1);
        for (int wrong : WRONG_WEIGHTS) {
            CHECKS.same("count of " + wrong, x.count(0, 2, wrong), BAD);
            CHECKS.same("count of " + wrong + " in none", x.count(1, 1, wrong), BAD);
            CHECKS.same("count of " + wrong + " without letters", with().count(0, 0, wrong), BAD);
        }
    }

    private static void countLetters() {
        CHECKS.begin("Promise 17: returns how many");
        for (int weight = 0; weight < 32; weight++) {
            LetterShelves x = alike(64, weight);
            CHECKS.same("all", x.count(0, 64, weight), 64);
            CHECKS.same("none", x.count(0, 64, (weight + 1) % 32), 0);
            CHECKS.same("none", x.count(0, 64, weight ^ 16), 0);
            CHECKS.same("two of 64", full().count(0, 64, weight), 2);
            CHECKS.same("in the second half", full().count(32, 64, weight), 1);
        }
    }

    private static void lighterWeights() {
        CHECKS.begin("Promise 18: BAD if the weight is out of range");
        LetterShelves x = with(0, 31);
        CHECKS.same("lighter than 0", x.lighter(0, 2, 0), 0);
        CHECKS.same("lighter than 1", x.lighter(0, 2, 1), 1);
        CHECKS.same("lighter than 31", x.lighter(0, 2, 31), 1);
        for (int wrong : WRONG_WEIGHTS) {
            CHECKS.same("lighter than " + wrong, x.lighter(0, 2, wrong), BAD);
            CHECKS.same("lighter than " + wrong + " in none", x.lighter(1, 1, wrong), BAD);
            CHECKS.same("lighter than " + wrong + " without letters", with().lighter(0, 0, wrong), BAD);
        }
    }

    private static void lighterLetters() {
        CHECKS.begin("Promise 18: returns how many are lighter, not those as heavy");
        LetterShelves x = full();
        for (int weight = 0; weight < 32; weight++) {
            CHECKS.same("of 64 lighter than " + weight, x.lighter(0, 64, weight), weight * 2);
            CHECKS.same("of 32 lighter than " + weight, x.lighter(32, 64, weight), weight);
            CHECKS.same("alike", alike(64, weight).lighter(0, 64, weight), 0);
            if (weight > 0) {
                CHECKS.same("one lighter", alike(64, weight - 1).lighter(0, 64, weight), 64);
            }
        }
    }

    private static void atLeastWeights() {
        CHECKS.begin("Promise 19: BAD if the weight is out of range");
        LetterShelves x = with(0, 31);
        CHECKS.same("at least 0", x.atLeast(0, 2, 0), 0);
        CHECKS.same("at least 1", x.atLeast(0, 2, 1), 31);
        CHECKS.same("at least 31", x.atLeast(0, 2, 31), 31);
        for (int wrong : WRONG_WEIGHTS) {
            // without letters, and with those that are heavy enough
            CHECKS.same("at least " + wrong, x.atLeast(0, 2, wrong), BAD);
            CHECKS.same("at least " + wrong + " in none", x.atLeast(1, 1, wrong), BAD);
            CHECKS.same("at least " + wrong + " of light ones", x.atLeast(0, 1, wrong), BAD);
            CHECKS.same("at least " + wrong + " without letters", with().atLeast(0, 0, wrong), BAD);
        }
    }

    private static void atLeastNothing() {
        CHECKS.begin("Promise 19: NOTHING if there is none");
        for (int weight = 0; weight < 32; weight++) {
            LetterShelves x = alike(64, weight);
            CHECKS.same("as heavy", x.atLeast(0, 64, weight), weight);
            CHECKS.same("heavier", x.atLeast(0, 64, 0), weight);
            if (weight < 31) {
                CHECKS.same("lighter", x.atLeast(0, 64, weight + 1), NOTHING);
                CHECKS.same("lighter", x.atLeast(0, 64, 31), NOTHING);
                CHECKS.same("lighter, of one", x.atLeast(63, 64, weight + 1), NOTHING);
            }
            CHECKS.same("in none", x.atLeast(64, 64, weight), NOTHING);
            CHECKS.same("without letters", with().atLeast(0, 0, weight), NOTHING);
        }
    }

    private static void atLeastAlone() {
        CHECKS.begin("In doubt: looked for among the letters of the part alone");
        LetterShelves x = with(31, 16, 4, 9, 17, 30);
        CHECKS.same("heavier ones at both sides", x.atLeast(2, 4, 10), NOTHING);
        CHECKS.same("lighter ones at both sides", x.atLeast(2, 4, 5), 9);
        CHECKS.same("with the one ahead", x.atLeast(1, 4, 10), 16);
        CHECKS.same("with the one behind", x.atLeast(2, 5, 10), 17);
        CHECKS.same("with both", x.atLeast(1, 5, 17), 17);
        CHECKS.same("with all", x.atLeast(0, 6, 18), 30);
    }

    private static void partFirst() {
        CHECKS.begin("Promises 17 to 19: NONE is listed ahead of BAD");
        LetterShelves x = with(5, 6);
        for (int wrong : WRONG_WEIGHTS) {
            for (int[] part : new int[][] {{-1, 2}, {0, 3}, {2, 1}, {3, 3}, {MIN, MAX}}) {
                CHECKS.same("count", x.count(part[0], part[1], wrong), NONE);
                CHECKS.same("lighter", x.lighter(part[0], part[1], wrong), NONE);
                CHECKS.same("atLeast", x.atLeast(part[0], part[1], wrong), NONE);
            }
        }
    }

    private static void findWeights() {
        CHECKS.begin("Promise 20: BAD if the weight is out of range");
        LetterShelves x = with(0, 31);
        CHECKS.same("find(0, 0)", x.find(0, 0), 0);
        CHECKS.same("find(31, 0)", x.find(31, 0), 1);
        for (int wrong : WRONG_WEIGHTS) {
            CHECKS.same("find(" + wrong + ", 0)", x.find(wrong, 0), BAD);
            CHECKS.same("find(" + wrong + ", 0) without letters", with().find(wrong, 0), BAD);
        }
    }

    private static void findNumbers() {
        CHECKS.begin("Promise 20: how many letters of this weight are ahead of it, from 0 on");
        for (int weight = 0; weight < 32; weight++) {
            LetterShelves x = alike(64, weight);
            for (int ahead = 0; ahead < 64; ahead++) {
                CHECKS.same("find(" + weight + ", " + ahead + ")", x.find(weight, ahead), ahead);
            }
            for (int place = 0; place < 64; place += 9) {
                LetterShelves y = alike(63, weight);
                y.insert(place, 31 - weight);
                CHECKS.same("the only one", y.find(31 - weight, 0), place);
                CHECKS.same("the last other one", y.find(weight, 62), place == 63 ? 62 : 63);
            }
        }
    }

    private static void findNothing() {
        CHECKS.begin("Promise 20: NOTHING if there are no more than so many");
        for (int weight = 0; weight < 32; weight++) {
            CHECKS.same("without letters", with().find(weight, 0), NOTHING);
            for (int size : new int[] {1, 8, 63, 64}) {
                LetterShelves x = alike(size, weight);
                for (int ahead : new int[] {size, size + 1, 64, 65, MAX}) {
                    CHECKS.same("find(" + weight + ", " + ahead + ")", x.find(weight, ahead), NOTHING);
                }
                CHECKS.same("another weight", x.find(weight ^ 1, 0), NOTHING);
                CHECKS.same("another weight", x.find(weight ^ 16, 0), NOTHING);
            }
        }
    }

    private static void findBelowNone() {
        CHECKS.begin("In doubt: places ahead below 0 are no such letters, and are told as NOTHING");
        LetterShelves x = full();
        for (int wrong : new int[] {-1, -2, -64, MIN, MIN + 1}) {
            for (int weight = 0; weight < 32; weight++) {
                CHECKS.same("find(" + weight + ", " + wrong + ")", x.find(weight, wrong), NOTHING);
            }
            CHECKS.same("without letters", with().find(0, wrong), NOTHING);
        }
    }

    private static void findBadFirst() {
        CHECKS.begin("Promise 20: BAD is listed ahead of NOTHING");
        for (int wrong : WRONG_WEIGHTS) {
            for (int ahead : new int[] {-1, 64, MIN, MAX}) {
                CHECKS.same("find(" + wrong + ", " + ahead + ")", full().find(wrong, ahead), BAD);
                CHECKS.same("find(" + wrong + ", " + ahead + ")", with().find(wrong, ahead), BAD);
            }
        }
    }

    private static void commonPlaces() {
        CHECKS.begin("Promise 21: the place in this order, from 0");
        LetterShelves x = full();
        for (int place = 0; place < 32; place++) {
            CHECKS.same("common of 32 unlike ones", x.common(0, 64, place), place);
        }
        CHECKS.same("behind them", x.common(0, 64, 32), NONE);
        CHECKS.same("of one letter", x.common(63, 64, 0), mixedWeight(63));
        CHECKS.same("behind it", x.common(63, 64, 1), NONE);
        CHECKS.same("of 64 alike", alike(64, 31).common(0, 64, 0), 31);
        CHECKS.same("behind them", alike(64, 31).common(0, 64, 1), NONE);
    }

    private static void commonNoPlace() {
        CHECKS.begin("Promise 21: NONE if there is no such place");
        LetterShelves x = with(3, 3, 0, 31);
        for (int wrong : new int[] {-1, 3, 4, 32, MIN, MAX}) {
            CHECKS.same("common(0, 4, " + wrong + ")", x.common(0, 4, wrong), NONE);
        }
        for (int wrong : new int[] {-1, 1, MIN, MAX}) {
            CHECKS.same("common(0, 2, " + wrong + ")", x.common(0, 2, wrong), NONE);
        }
        CHECKS.same("without letters", with().common(0, 0, 0), NONE);
    }

    private static void commonOrder() {
        CHECKS.begin("Promise 21: the most first, of several the lightest");
        LetterShelves x = with(31, 31, 0, 9, 9, 5, 31, 0, 30);
        int[] due = {31, 0, 9, 5, 30};
        for (int place = 0; place < due.length; place++) {
            CHECKS.same("common(0, 9, " + place + ")", x.common(0, 9, place), due[place]);
        }
        CHECKS.same("of the part alone", x.common(3, 8, 0), 9);
        CHECKS.same("of the part alone", x.common(3, 8, 1), 0);
        CHECKS.same("of the part alone", x.common(3, 8, 3), 31);
        CHECKS.same("of the part alone", x.common(3, 8, 4), NONE);
    }
}
