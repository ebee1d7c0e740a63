/** The edges that the document names of the letters: promises 1 to 8, "Letters", "Reasons" and "Codes" of them. */
final class LettersEdgesTest extends Trial {
    private LettersEdgesTest() {
    }

    public static void main(String[] args) {
        newShelves();
        shelvesApart();
        putPlaces();
        putWeights();
        putWithoutRoom();
        putBadFirst();
        insertPlaces();
        insertNoPlace();
        insertWeights();
        insertWithoutRoom();
        insertFirstCode();
        lettersComeLater();
        takeLetters();
        takeNoLetter();
        lettersComeEarlier();
        roomAgain();
        swapLetters();
        swapNoLetter();
        swapSameWeight();
        markPlaces();
        markNoPlace();
        markSoAlready();
        markNoPlaceFirst();
        markWithoutLetter();
        markNumbers();
        weightsOfLetters();
        weightsOfNoLetter();
        CHECKS.end();
    }

    private static void newShelves() {
        CHECKS.begin("Promise 1: shelves without letters");
        LetterShelves x = new LetterShelves();
        CHECKS.same("weight", x.weight(0), NONE);
        CHECKS.same("weightAgain", x.weightAgain(0), NONE);
        for (int row = 0; row < 5; row++) {
            CHECKS.same("bit", x.bit(row, 0), NONE);
            CHECKS.same("bits", x.bits(row), 0);
            CHECKS.same("placeIn", x.placeIn(row, 0), NONE);
            CHECKS.same("tellRow", x.tellRow(row), 0);
        }
        CHECKS.same("find", x.find(0, 0), NOTHING);
        CHECKS.same("bagAt", x.bagAt(0), NONE);
        CHECKS.same("bagOf", x.bagOf(0, 0), NONE);
        for (int what = 0; what <= 10; what++) {
            CHECKS.same("account(" + what + ")", x.account(what), 0);
        }
        noReason(x);
        CHECKS.same("isBalanced", x.isBalanced(), 1);
        CHECKS.same("undo", x.undo(), NOTHING);
        CHECKS.same("restore", x.restore(), NOTHING);
        for (int place = 1; place < 64; place++) {
            CHECKS.same("no place is marked", x.mark(place, false), REFUSED);
        }
    }

    private static void shelvesApart() {
        CHECKS.begin("Promise 1: each shelves are their own");
        LetterShelves x = marked(mixed(5), 3);
        x.save();
        x.tell();
        write(x, "put 1");
        x.swap(9);
        x.mark(3, true);
        LetterShelves y = new LetterShelves();
        for (int what = 0; what <= 10; what++) {
            CHECKS.same("account(" + what + ")", y.account(what), 0);
        }
        CHECKS.same("character", y.character(0), NONE);
        noReason(y);
        CHECKS.same("restore", y.restore(), NOTHING);
        y.put(31);
        CHECKS.sameText("the earlier ones", told(x), "05a|fk");
    }

    private static void putPlaces() {
        CHECKS.begin("Promise 2: returns its place");
        LetterShelves x = new LetterShelves();
        for (int place = 0; place < 64; place++) {
            CHECKS.same("put", x.put(mixedWeight(place)), place);
            CHECKS.same("it came to the end", x.weight(place), mixedWeight(place));
            CHECKS.same("letters", x.account(0), place + 1);
        }
    }

    private static void putWeights() {
        CHECKS.begin("Promise 2: BAD if the weight is out of range");
        LetterShelves x = new LetterShelves();
        CHECKS.same("put(-1)", x.put(-1), BAD);
        CHECKS.same("put(0)", x.put(0), 0);
        CHECKS.same("put(31)", x.put(31), 1);
        CHECKS.same("put(32)", x.put(32), BAD);
        CHECKS.same("put(min)", x.put(MIN), BAD);
        CHECKS.same("put(max)", x.put(MAX), BAD);
        CHECKS.same("a weight in its lowest bits", x.put(256 + 7), BAD);
        CHECKS.same("letters", x.account(0), 2);
        noReason(x);
    }

    private static void putWithoutRoom() {
        CHECKS.begin("Promise 2: REFUSED for the reason 1");
        LetterShelves x = mixed(63);
        CHECKS.same("the last room", x.put(9), 63);
        noReason(x);
        CHECKS.same("no room", x.put(9), REFUSED);
        reasonIs(x, 1, 64);
        CHECKS.same("letters", x.account(0), 64);
        CHECKS.same("came", x.account(2), 64);
    }

    private static void putBadFirst() {
        CHECKS.begin("Promise 2: BAD is listed ahead of REFUSED");
        LetterShelves x = full();
        for (int wrong : WRONG_WEIGHTS) {
            CHECKS.same("put(" + wrong + ")", x.put(wrong), BAD);
        }
        noReason(x);
    }

    private static void insertPlaces() {
        CHECKS.begin("Promise 3: the place, from 0 to how many letters there are");
        LetterShelves x = new LetterShelves();
        CHECKS.same("to shelves without letters", x.insert(0, 5), 1);
        CHECKS.same("to the end", x.insert(1, 6), 2);
        CHECKS.same("to the end", x.insert(2, 7), 3);
        CHECKS.same("to the place 0", x.insert(0, 4), 4);
        CHECKS.same("ahead of the last one", x.insert(3, 9), 5);
        CHECKS.sameText("tell", told(x), "45697");
        for (int place : new int[] {0, 1, 7, 8, 31, 32, 62, 63}) {
            LetterShelves y = alike(63, 1);
            CHECKS.same("the last room, at " + place, y.insert(place, 30), 64);
            CHECKS.same("it is there", y.weight(place), 30);
            CHECKS.same("it is there alone", y.count(0, 64, 30), 1);
        }
    }

    private static void insertNoPlace() {
        CHECKS.begin("Promise 3: NONE if there is no such place");
        LetterShelves x = new LetterShelves();
        CHECKS.same("insert(1) without letters", x.insert(1, 5), NONE);
        CHECKS.same("insert(-1) without letters", x.insert(-1, 5), NONE);
        x = with(1, 2, 3);
        for (int wrong : new int[] {-1, 4, 64, MIN, MAX}) {
            CHECKS.same("insert(" + wrong + ")", x.insert(wrong, 5), NONE);
        }
        x = mixed(63);
        CHECKS.same("insert(64) to 63 letters", x.insert(64, 5), NONE);
        CHECKS.same("letters", x.account(0), 63);
        noReason(x);
    }

    private static void insertWeights() {
        CHECKS.begin("Promise 3: BAD if the weight is out of range");
        LetterShelves x = new LetterShelves();
        CHECKS.same("insert(0, 0)", x.insert(0, 0), 1);
        CHECKS.same("insert(0, 31)", x.insert(0, 31), 2);
        for (int wrong : WRONG_WEIGHTS) {
            CHECKS.same("insert(0, " + wrong + ")", x.insert(0, wrong), BAD);
            CHECKS.same("insert(2, " + wrong + ")", x.insert(2, wrong), BAD);
        }
        CHECKS.sameText("tell", told(x), "v0");
        noReason(x);
    }

    private static void insertWithoutRoom() {
        CHECKS.begin("Promise 3: REFUSED for the reason 1");
        for (int place : new int[] {0, 1, 32, 63, 64}) {
            LetterShelves x = full();
            CHECKS.same("insert(" + place + ")", x.insert(place, 5), REFUSED);
            reasonIs(x, 1, 64);
            CHECKS.same("letters", x.account(0), 64);
        }
    }

    private static void insertFirstCode() {
        CHECKS.begin("Promise 3: NONE is listed ahead of BAD, and BAD ahead of REFUSED");
        LetterShelves x = with(1, 2, 3);
        for (int wrong : WRONG_WEIGHTS) {
            CHECKS.same("insert(4, " + wrong + ")", x.insert(4, wrong), NONE);
            CHECKS.same("insert(-1, " + wrong + ")", x.insert(-1, wrong), NONE);
        }
        LetterShelves y = full();
        CHECKS.same("NONE and REFUSED", y.insert(65, 5), NONE);
        CHECKS.same("NONE and REFUSED", y.insert(-1, 5), NONE);
        for (int wrong : WRONG_WEIGHTS) {
            CHECKS.same("all of them", y.insert(65, wrong), NONE);
            CHECKS.same("BAD and REFUSED", y.insert(64, wrong), BAD);
            CHECKS.same("BAD and REFUSED", y.insert(0, wrong), BAD);
        }
        noReason(x);
        noReason(y);
    }

    private static void lettersComeLater() {
        CHECKS.begin("Letters: those from there on come one place later");
        for (int place = 0; place <= 63; place++) {
            LetterShelves x = mixed(63);
            x.insert(place, 31);
            for (int each = 0; each < 64; each++) {
                int due = each == place ? 31 : mixedWeight(each < place ? each : each - 1);
                CHECKS.same("weight(" + each + ") after insert(" + place + ")", x.weight(each), due);
            }
        }
    }

    private static void takeLetters() {
        CHECKS.begin("Promise 4: returns its weight");
        LetterShelves x = with(0, 7, 31);
        CHECKS.same("the last one", x.take(2), 31);
        CHECKS.same("the first one", x.take(0), 0);
        CHECKS.same("the only one", x.take(0), 7);
        CHECKS.same("letters", x.account(0), 0);
        CHECKS.same("take(63) of 64", full().take(63), mixedWeight(63));
        CHECKS.same("take(0) of 64", alike(64, 6).take(0), 6);
    }

    private static void takeNoLetter() {
        CHECKS.begin("Promise 4: NONE if there is no such letter");
        LetterShelves x = new LetterShelves();
        CHECKS.same("take(0) without letters", x.take(0), NONE);
        x = with(1, 2, 3);
        for (int wrong : new int[] {-1, 3, 63, 64, MIN, MAX}) {
            CHECKS.same("take(" + wrong + ")", x.take(wrong), NONE);
        }
        CHECKS.same("take(64) of 64", full().take(64), NONE);
        x.take(2);
        CHECKS.same("where one was", x.take(2), NONE);
        CHECKS.same("taken", x.account(3), 1);
        noReason(x);
    }

    private static void lettersComeEarlier() {
        CHECKS.begin("Letters: those behind it come one place earlier");
        for (int place = 0; place < 64; place++) {
            LetterShelves x = full();
            x.take(place);
            for (int each = 0; each < 63; each++) {
                CHECKS.same("weight(" + each + ") after take(" + place + ")", x.weight(each),
                        mixedWeight(each < place ? each : each + 1));
            }
            CHECKS.same("weight(63)", x.weight(63), NONE);
        }
    }

    private static void roomAgain() {
        CHECKS.begin("Letters: at most 64 letters stand in a row");
        LetterShelves x = full();
        CHECKS.same("no room", x.put(1), REFUSED);
        x.take(10);
        CHECKS.same("room", x.put(1), 63);
        CHECKS.same("no room", x.put(1), REFUSED);
        x.undo();
        CHECKS.same("room", x.insert(0, 1), 64);
        CHECKS.same("no room", x.insert(0, 1), REFUSED);
        CHECKS.same("came", x.account(2), 65);
    }

    private static void swapLetters() {
        CHECKS.begin("Promise 5: returns the weight that comes to this place");
        LetterShelves x = with(0, 31);
        CHECKS.same("the only two", x.swap(0), 31);
        CHECKS.same("the only two", x.swap(0), 0);
        x = with(4, 5, 6);
        CHECKS.same("the first two", x.swap(0), 5);
        CHECKS.same("the last two", x.swap(1), 6);
        CHECKS.sameText("tell", told(x), "564");
        LetterShelves y = full();
        CHECKS.same("the last two of 64", y.swap(62), mixedWeight(63));
        CHECKS.same("the other one", y.weight(63), mixedWeight(62));
        CHECKS.same("the one ahead", y.weight(61), mixedWeight(61));
    }

    private static void swapNoLetter() {
        CHECKS.begin("Promise 5: NONE if there is no such letter, or no next one");
        CHECKS.same("without letters", with().swap(0), NONE);
        CHECKS.same("without letters", with().swap(-1), NONE);
        CHECKS.same("one letter", with(5).swap(0), NONE);
        CHECKS.same("ahead of one letter", with(5).swap(-1), NONE);
        LetterShelves x = with(4, 5, 5);
        for (int wrong : new int[] {-1, 2, 3, 63, 64, MIN, MAX, MAX - 1}) {
            CHECKS.same("swap(" + wrong + ")", x.swap(wrong), NONE);
        }
        LetterShelves y = full();
        CHECKS.same("the last one of 64", y.swap(63), NONE);
        CHECKS.same("behind 64", y.swap(64), NONE);
        LetterShelves z = with(4, 5);
        z.take(1);
        CHECKS.same("where the next one was", z.swap(0), NONE);
        noReason(x);
        noReason(y);
        noReason(z);
    }

    private static void swapSameWeight() {
        CHECKS.begin("Promise 5: REFUSED for the reason 2");
        for (int weight = 0; weight < 32; weight++) {
            LetterShelves x = with(weight, weight);
            CHECKS.same("swap(0)", x.swap(0), REFUSED);
            reasonIs(x, 2, weight);
            CHECKS.same("swaps", x.account(7), 0);
        }
        LetterShelves x = alike(64, 3);
        CHECKS.same("swap(62) of 64", x.swap(62), REFUSED);
        reasonIs(x, 2, 3);
    }

    private static void markPlaces() {
        CHECKS.begin("Promise 6: the place, 1 to 63");
        for (int place = 1; place <= 63; place++) {
            LetterShelves x = full();
            CHECKS.same("mark(" + place + ", true)", x.mark(place, true), 1);
            CHECKS.same("its bag", x.bagOf(1, 0), place);
            CHECKS.same("bags", x.account(4), 2);
            CHECKS.same("mark(" + place + ", false)", x.mark(place, false), 0);
            CHECKS.same("bags", x.account(4), 1);
        }
    }

    private static void markNoPlace() {
        CHECKS.begin("Promise 6: NONE if there is no such place");
        LetterShelves x = new LetterShelves();
        for (int wrong : new int[] {0, -1, 64, 65, 127, 128, -63, MIN, MIN + 1, MAX}) {
            CHECKS.same("mark(" + wrong + ", true)", x.mark(wrong, true), NONE);
            CHECKS.same("mark(" + wrong + ", true) of 64", full().mark(wrong, true), NONE);
        }
        CHECKS.same("marked", x.account(5), 0);
        noReason(x);
    }

    private static void markSoAlready() {
        CHECKS.begin("Promise 6: REFUSED for the reason 3");
        for (int place = 1; place <= 63; place++) {
            LetterShelves x = new LetterShelves();
            CHECKS.same("not marked", x.mark(place, false), REFUSED);
            reasonIs(x, 3, place);
            x.mark(place, true);
            CHECKS.same("marked", x.mark(place, true), REFUSED);
            reasonIs(x, 3, place);
            CHECKS.same("marked", x.account(5), 1);
        }
    }

    private static void markNoPlaceFirst() {
        CHECKS.begin("Promise 6: NONE is listed ahead of REFUSED");
        LetterShelves x = with(1, 2);
        // no such place is marked, so that it is so already
        for (int wrong : new int[] {0, -1, 64, MIN, MAX}) {
            CHECKS.same("mark(" + wrong + ", false)", x.mark(wrong, false), NONE);
        }
        noReason(x);
    }

    private static void markWithoutLetter() {
        CHECKS.begin("In doubt: a place can be marked where no letter stands yet");
        LetterShelves x = new LetterShelves();
        CHECKS.same("mark(1, true)", x.mark(1, true), 1);
        CHECKS.same("mark(63, true)", x.mark(63, true), 2);
        CHECKS.same("mark(63, false)", x.mark(63, false), 1);
        CHECKS.same("bags", x.account(4), 0);
        x.put(5);
        CHECKS.same("mark(2, true)", x.mark(2, true), 2);
        CHECKS.same("bags", x.account(4), 1);
    }

    private static void markNumbers() {
        CHECKS.begin("Promise 6: returns how many places are marked then");
        LetterShelves x = mixed(3);
        for (int place = 63; place >= 1; place--) {
            CHECKS.same("mark(" + place + ", true)", x.mark(place, true), 64 - place);
        }
        for (int place = 1; place <= 63; place++) {
            CHECKS.same("mark(" + place + ", false)", x.mark(place, false), 63 - place);
        }
    }

    private static void weightsOfLetters() {
        CHECKS.begin("Promises 7, 8: returns the weight");
        for (int letters : new int[] {1, 2, 7, 8, 9, 63, 64}) {
            LetterShelves x = mixed(letters);
            for (int place = 0; place < letters; place++) {
                CHECKS.same("weight(" + place + ")", x.weight(place), mixedWeight(place));
                CHECKS.same("weightAgain(" + place + ")", x.weightAgain(place), mixedWeight(place));
            }
        }
        for (int weight = 0; weight < 32; weight++) {
            CHECKS.same("weight of one letter", with(weight).weight(0), weight);
            CHECKS.same("weightAgain of one letter", with(weight).weightAgain(0), weight);
            CHECKS.same("weightAgain of 64 alike", alike(64, weight).weightAgain(63), weight);
        }
    }

    private static void weightsOfNoLetter() {
        CHECKS.begin("Promises 7, 8: NONE if there is no such letter");
        for (int letters : new int[] {0, 1, 8, 63, 64}) {
            LetterShelves x = mixed(letters);
            for (int wrong : new int[] {-1, letters, letters + 1, 65, MIN, MAX}) {
                CHECKS.same("weight(" + wrong + ") of " + letters, x.weight(wrong), NONE);
                CHECKS.same("weightAgain(" + wrong + ") of " + letters, x.weightAgain(wrong), NONE);
            }
        }
        LetterShelves x = full();
        x.take(0);
        CHECKS.same("weight(63) after take", x.weight(63), NONE);
        CHECKS.same("weightAgain(63) after take", x.weightAgain(63), NONE);
    }
}
