/** The edges that the document names of the bags: promises 22 to 24, "Bags" and "In doubt" of them. */
final class BagsEdgesTest extends Trial {
    private BagsEdgesTest() {
    }

    public static void main(String[] args) {
        noBagWithoutLetters();
        bagAtThePlaceNone();
        bagsToTheEnd();
        markWithoutLetters();
        markStays();
        bagOfBags();
        bagOfNoBag();
        bagOfNumbers();
        bagOfBadNumbers();
        bagOfNoBagFirst();
        medians();
        heaviestAndUnlike();
        mostBags();
        bagAtPlaces();
        bagAtNoLetter();
        rankedPlaces();
        rankedNoPlace();
        rankedOrder();
        CHECKS.end();
    }

    /** Checks at which places the bags begin, and that they are all. */
    private static void beginsAre(LetterShelves x, int... begins) {
        CHECKS.same("bags", x.account(4), begins.length);
        int letters = 0;
        for (int bag = 0; bag < begins.length; bag++) {
            int end = bag + 1 < begins.length ? begins[bag + 1] : x.account(0);
            CHECKS.same("bag " + bag + " begins", x.bagOf(bag, 0), begins[bag]);
            CHECKS.same("letters of bag " + bag, x.bagOf(bag, 1), end - begins[bag]);
            letters += x.bagOf(bag, 1);
        }
        CHECKS.same("the letters of all bags", letters, x.account(0));
        CHECKS.same("no bag behind them", x.bagOf(begins.length, 0), NONE);
    }

    private static void noBagWithoutLetters() {
        CHECKS.begin("Bags: at the place 0, if there are letters");
        beginsAre(with());
        beginsAre(marked(with(), 1, 2, 63));
        LetterShelves x = marked(with(5), 1);
        beginsAre(x, 0);
        x.take(0);
        beginsAre(x);
    }

    private static void bagAtThePlaceNone() {
        CHECKS.begin("Bags: a bag begins at each place that is marked, and at the place 0");
        beginsAre(with(5), 0);
        beginsAre(with(5, 6), 0);
        beginsAre(marked(with(5, 6), 1), 0, 1);
        beginsAre(marked(with(5, 6, 7), 2), 0, 2);
        beginsAre(marked(full(), 63), 0, 63);
        beginsAre(marked(full(), 1, 8, 9, 62, 63), 0, 1, 8, 9, 62, 63);
    }

    private static void bagsToTheEnd() {
        CHECKS.begin("Bags: it goes on to the place at which the next one begins, or to the end");
        LetterShelves x = marked(with(1, 2, 4, 8, 16), 2);
        CHECKS.same("to the next one", x.bagOf(0, 2), 3);
        CHECKS.same("to the end", x.bagOf(1, 2), 28);
        x.put(31);
        CHECKS.same("to the end then", x.bagOf(1, 2), 59);
        x.mark(5, true);
        CHECKS.same("to the next one then", x.bagOf(1, 2), 28);
        x.mark(2, false);
        CHECKS.same("to the next one then", x.bagOf(0, 2), 31);
    }

    private static void markWithoutLetters() {
        CHECKS.begin("Bags: when there are no letters at a place, its mark begins no bag");
        for (int place = 1; place <= 63; place++) {
            LetterShelves x = marked(mixed(place), place);
            beginsAre(x, 0);
            CHECKS.same("no bag of the place", x.bagAt(place), NONE);
            x.put(9);
            beginsAre(x, 0, place);
            x.take(0);
            beginsAre(x, 0);
        }
    }

    private static void markStays() {
        CHECKS.begin("Bags: a mark stays with its place, whatever letters come and go");
        LetterShelves x = marked(with(1, 2, 3, 4), 2);
        x.insert(0, 9);
        beginsAre(x, 0, 2);
        CHECKS.sameText("after insert", told(x), "91|234");
        x.take(4);
        x.take(0);
        CHECKS.sameText("after take", told(x), "12|3");
        x.swap(1);
        CHECKS.sameText("after swap", told(x), "13|2");
        x.take(2);
        x.take(0);
        x.take(0);
        CHECKS.same("marked without letters", x.account(5), 1);
        beginsAre(x);
        CHECKS.same("run", run(x, "put 5;put 6;put 7"), 3);
        beginsAre(x, 0, 2);
    }

    private static void bagOfBags() {
        CHECKS.begin("Promise 22: a number of a bag, the first one and the last one");
        LetterShelves x = marked(with(7, 5, 5, 31), 1, 3);
        int[][] due = {{0, 1, 7, 7, 7, 1}, {1, 2, 10, 5, 5, 1}, {3, 1, 31, 31, 31, 1}};
        for (int bag = 0; bag < 3; bag++) {
            for (int what = 0; what <= 5; what++) {
                CHECKS.same("bagOf(" + bag + ", " + what + ")", x.bagOf(bag, what), due[bag][what]);
            }
        }
    }

    private static void bagOfNoBag() {
        CHECKS.begin("Promise 22: NONE if there is no such bag");
        for (int what = 0; what <= 5; what++) {
            CHECKS.same("without letters", with().bagOf(0, what), NONE);
            CHECKS.same("without letters, but marked", marked(with(), 1).bagOf(0, what), NONE);
            LetterShelves x = marked(with(7, 5, 5, 31), 1, 3, 4);
            for (int wrong : new int[] {-1, 3, 4, 64, MIN, MAX}) {
                CHECKS.same("bagOf(" + wrong + ", " + what + ")", x.bagOf(wrong, what), NONE);
            }
        }
    }

    private static void bagOfNumbers() {
        CHECKS.begin("Promise 22: 2 for their weights together");
        CHECKS.same("of 0", alike(64, 0).bagOf(0, 2), 0);
        CHECKS.same("of 64 of 31", alike(64, 31).bagOf(0, 2), 1984);
        CHECKS.same("letters", alike(64, 31).bagOf(0, 1), 64);
        CHECKS.same("without those of other bags", marked(alike(64, 31), 1, 63).bagOf(1, 2), 62 * 31);
    }

    private static void bagOfBadNumbers() {
        CHECKS.begin("Promise 22: BAD if what is not from 0 to 5");
        LetterShelves x = marked(with(7, 5, 5, 31), 1, 3);
        for (int wrong : new int[] {-1, 6, 7, 64, MIN, MAX}) {
            for (int bag = 0; bag < 3; bag++) {
                CHECKS.same("bagOf(" + bag + ", " + wrong + ")", x.bagOf(bag, wrong), BAD);
            }
        }
    }

    private static void bagOfNoBagFirst() {
        CHECKS.begin("Promise 22: NONE is listed ahead of BAD");
        LetterShelves x = with(7, 5);
        for (int wrong : new int[] {-1, 6, MIN, MAX}) {
            CHECKS.same("bagOf(-1, " + wrong + ")", x.bagOf(-1, wrong), NONE);
            CHECKS.same("bagOf(1, " + wrong + ")", x.bagOf(1, wrong), NONE);
            CHECKS.same("bagOf(0, " + wrong + ") without letters", with().bagOf(0, wrong), NONE);
        }
    }

    private static void medians() {
        CHECKS.begin("Promise 22: the median, at half of its letters by size, one less if they are even");
        CHECKS.same("of one", with(9).bagOf(0, 3), 9);
        CHECKS.same("of two", with(9, 4).bagOf(0, 3), 4);
        CHECKS.same("In doubt: of three at the place 1", with(9, 4, 6).bagOf(0, 3), 6);
        CHECKS.same("In doubt: of four at the place 1", with(9, 4, 6, 20).bagOf(0, 3), 6);
        CHECKS.same("of five", with(9, 4, 6, 20, 30).bagOf(0, 3), 9);
        CHECKS.same("of six", with(9, 4, 6, 20, 30, 31).bagOf(0, 3), 9);
        for (int letters = 1; letters <= 32; letters++) {
            LetterShelves x = new LetterShelves();
            for (int weight = letters - 1; weight >= 0; weight--) {
                x.put(weight);
            }
            CHECKS.same("of " + letters, x.bagOf(0, 3), letters % 2 == 0 ? letters / 2 - 1 : letters / 2);
        }
        LetterShelves x = full();
        CHECKS.same("of 64", x.bagOf(0, 3), 15);
        x.insert(0, 31);
        x.take(x.find(0, 0));
        CHECKS.same("of 63", x.bagOf(0, 3), 16);
    }

    private static void heaviestAndUnlike() {
        CHECKS.begin("Promise 22: 4 for its heaviest weight, 5 for how many unlike weights it has");
        LetterShelves x = full();
        CHECKS.same("heaviest of 64", x.bagOf(0, 4), 31);
        CHECKS.same("unlike of 64", x.bagOf(0, 5), 32);
        CHECKS.same("heaviest of 0", alike(64, 0).bagOf(0, 4), 0);
        CHECKS.same("unlike of one weight", alike(64, 0).bagOf(0, 5), 1);
        LetterShelves y = marked(with(31, 3, 4, 30), 1, 3);
        CHECKS.same("heaviest of the bag alone", y.bagOf(1, 4), 4);
        CHECKS.same("unlike of the bag alone", y.bagOf(1, 5), 2);
    }

    private static void mostBags() {
        CHECKS.begin("In doubt: bags have letters, each of them one at least");
        LetterShelves x = full();
        for (int place = 1; place <= 63; place++) {
            x.mark(place, true);
        }
        CHECKS.same("bags", x.account(4), 64);
        for (int bag = 0; bag < 64; bag++) {
            CHECKS.same("begin", x.bagOf(bag, 0), bag);
            CHECKS.same("letters", x.bagOf(bag, 1), 1);
            CHECKS.same("median", x.bagOf(bag, 3), mixedWeight(bag));
        }
        CHECKS.same("bagOf(64, 0)", x.bagOf(64, 0), NONE);
        CHECKS.same("bagAt(63)", x.bagAt(63), 63);
        CHECKS.same("ranked(64)", x.ranked(64), NONE);
        CHECKS.same("isBalanced", x.isBalanced(), 1);
    }

    private static void bagAtPlaces() {
        CHECKS.begin("Promise 23: the bag of a letter, at both sides of where one begins");
        LetterShelves x = marked(full(), 1, 8, 63);
        int[] places = {0, 1, 2, 7, 8, 9, 62, 63};
        int[] due = {0, 1, 1, 1, 2, 2, 2, 3};
        for (int index = 0; index < places.length; index++) {
            CHECKS.same("bagAt(" + places[index] + ")", x.bagAt(places[index]), due[index]);
        }
        CHECKS.same("of the only letter", with(5).bagAt(0), 0);
    }

    private static void bagAtNoLetter() {
        CHECKS.begin("Promise 23: NONE if there is no such letter");
        for (int letters : new int[] {0, 1, 2, 63, 64}) {
            LetterShelves x = marked(mixed(letters), 1, 2, 63);
            for (int wrong : new int[] {-1, letters, letters + 1, 65, MIN, MAX}) {
                CHECKS.same("bagAt(" + wrong + ") of " + letters, x.bagAt(wrong), NONE);
            }
        }
    }

    private static void rankedPlaces() {
        CHECKS.begin("Promise 24: the place, from 0");
        CHECKS.same("of one bag", with(5).ranked(0), 0);
        LetterShelves x = new LetterShelves();
        for (int place = 0; place < 64; place++) {
            x.put(place < 32 ? place : 63 - place);
            x.mark(place, true);
        }
        for (int place = 0; place < 64; place++) {
            // the weights 31, 31, 30, 30 and so on, the earlier one first
            int due = place % 2 == 0 ? 31 - place / 2 : 32 + place / 2;
            CHECKS.same("ranked(" + place + ") of 64 bags", x.ranked(place), due);
        }
    }

    private static void rankedNoPlace() {
        CHECKS.begin("Promise 24: NONE if there is no such place");
        for (int wrong : new int[] {-1, 0, 1, 64, MIN, MAX}) {
            CHECKS.same("without letters", with().ranked(wrong), NONE);
            CHECKS.same("without letters, but marked", marked(with(), 1, 2).ranked(wrong), NONE);
        }
        LetterShelves x = marked(with(5, 6, 7), 1, 3);
        for (int wrong : new int[] {-1, 2, 3, 64, MIN, MAX}) {
            CHECKS.same("ranked(" + wrong + ") of two bags", x.ranked(wrong), NONE);
        }
    }

    private static void rankedOrder() {
        CHECKS.begin("Promise 24: the most first, of several the one with fewer letters, then the first");
        rankedAre(marked(with(5, 6), 1), 1, 0);
        rankedAre(marked(with(6, 5), 1), 0, 1);
        rankedAre(marked(with(5, 5), 1), 0, 1);
        rankedAre(marked(with(2, 3, 5), 2), 1, 0);
        rankedAre(marked(with(5, 2, 3), 1), 0, 1);
        rankedAre(marked(with(0, 0, 0, 0), 2, 3), 1, 2, 0);
        rankedAre(marked(with(1, 1, 1, 31), 3), 1, 0);
        rankedAre(marked(with(4, 4, 8, 3, 5, 8, 9), 2, 3, 5, 6), 4, 1, 3, 0, 2);
    }

    private static void rankedAre(LetterShelves x, int... due) {
        for (int place = 0; place < due.length; place++) {
            CHECKS.same("ranked(" + place + ")", x.ranked(place), due[place]);
        }
        CHECKS.same("no more", x.ranked(due.length), NONE);
    }
}
