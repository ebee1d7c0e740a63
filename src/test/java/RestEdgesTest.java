/** The edges that the document names of reasons, accounts, means, undo and the snapshot: promises 30 to 37. */
final class RestEdgesTest extends Trial {
    private RestEdgesTest() {
    }

    public static void main(String[] args) {
        reasonOfNothing();
        reasonsInTurn();
        reasonsStay();
        accountNumbers();
        accountsAtTheirLeast();
        accountsAtTheirMost();
        accountsSoFar();
        balanced();
        meanOfNone();
        means();
        shareOfNone();
        shares();
        undoWithoutChange();
        undoEight();
        undoMoreThanEight();
        undoEachKind();
        undoWithoutDifference();
        undoIsNoChange();
        codesAreNoChanges();
        undoGoesRound();
        saveLetters();
        saveInPlaceOfTheEarlier();
        saveIsNoChange();
        restoreWithoutSnapshot();
        restoreAll();
        restoreStays();
        restoreWithoutUndo();
        restoreManyAndFew();
        textAndLineStay();
        CHECKS.end();
    }

    private static void reasonOfNothing() {
        CHECKS.begin("Promise 30: NOTHING if nothing was refused");
        noReason(with());
        LetterShelves x = full();
        noReason(x);
        // codes that are no refusals
        x.put(32);
        x.insert(65, 0);
        x.take(64);
        x.swap(63);
        x.mark(64, true);
        x.append(31);
        x.run();
        x.find(1, -1);
        x.account(11);
        x.restore();
        noReason(x);
    }

    private static void reasonsInTurn() {
        CHECKS.begin("Promise 30: the latest reason, or its detail");
        LetterShelves x = full();
        x.insert(0, 3);
        reasonIs(x, 1, 64);
        x.take(63);
        x.put(mixedWeight(62));
        x.swap(62);
        reasonIs(x, 2, mixedWeight(62));
        x.mark(63, false);
        reasonIs(x, 3, 63);
        run(x, "out 0;in 0 32");
        reasonIs(x, 4, 1);
        run(x, "out 64");
        reasonIs(x, 4, 0);
        x.put(3);
        reasonIs(x, 1, 64);
        LetterShelves y = with(0, 0);
        y.swap(0);
        reasonIs(y, 2, 0);
    }

    private static void reasonsStay() {
        CHECKS.begin("Codes: the reason and its detail are neither undone nor saved, and stay");
        LetterShelves x = with(7, 7);
        x.save();
        x.swap(0);
        x.put(3);
        reasonIs(x, 2, 7);
        x.undo();
        reasonIs(x, 2, 7);
        x.restore();
        reasonIs(x, 2, 7);
        x.take(9);
        x.put(32);
        run(x, "wrong");
        reasonIs(x, 2, 7);
        run(x, "put 1");
        reasonIs(x, 2, 7);
    }

    private static void accountNumbers() {
        CHECKS.begin("Promise 31: BAD if what is not from 0 to 10");
        LetterShelves x = full();
        CHECKS.same("account(0)", x.account(0), 64);
        CHECKS.same("account(10)", x.account(10), 8);
        for (int wrong : new int[] {-1, 11, 12, 64, MIN, MAX}) {
            CHECKS.same("account(" + wrong + ")", x.account(wrong), BAD);
            CHECKS.same("account(" + wrong + ") without letters", with().account(wrong), BAD);
        }
    }

    private static void accountsAre(LetterShelves x, int... due) {
        for (int what = 0; what <= 10; what++) {
            CHECKS.same("account(" + what + ")", x.account(what), due[what]);
        }
    }

    private static void accountsAtTheirLeast() {
        CHECKS.begin("Promise 31: the accounts without letters, and of one");
        accountsAre(with(), 0, 0, 0, 0, 0, 0, 0, 0, 0, 0, 0);
        accountsAre(with(0), 1, 0, 1, 0, 1, 0, 1, 0, 0, 0, 1);
        LetterShelves x = with(31);
        accountsAre(x, 1, 31, 1, 0, 1, 0, 1, 0, 5, 0, 1);
        x.take(0);
        accountsAre(x, 0, 0, 1, 1, 0, 0, 0, 0, 0, 0, 2);
        accountsAre(marked(with(), 1), 0, 0, 0, 0, 0, 1, 0, 0, 0, 0, 1);
    }

    private static void accountsAtTheirMost() {
        CHECKS.begin("Promise 31: the accounts of 64 letters");
        LetterShelves x = alike(64, 31);
        for (int place = 1; place <= 63; place++) {
            x.mark(place, true);
        }
        write(x, "a".repeat(60));
        accountsAre(x, 64, 1984, 64, 0, 64, 63, 1, 0, 320, 60, 8);
        accountsAre(full(), 64, 992, 64, 0, 1, 0, 32, 0, 160, 0, 8);
        accountsAre(alike(64, 0), 64, 0, 64, 0, 1, 0, 1, 0, 0, 0, 8);
    }

    private static void accountsSoFar() {
        CHECKS.begin("Promise 31: those so far, by calls and by orders");
        LetterShelves x = new LetterShelves();
        for (int time = 1; time <= 70; time++) {
            x.put(time % 32);
            x.insert(0, 31 - time % 32);
            x.take(0);
            x.take(0);
            CHECKS.same("came", x.account(2), 2 * time);
            CHECKS.same("taken", x.account(3), 2 * time);
        }
        LetterShelves y = with(4, 5);
        y.swap(0);
        CHECKS.same("run", run(y, "put 6;in 0 7;swap 0;swap 0;out 1"), 5);
        accountsAre(y, 3, 17, 4, 1, 1, 0, 3, 3, 6, 0, 4);
    }

    private static void balanced() {
        CHECKS.begin("Promise 32: 1 if it is so");
        CHECKS.same("without letters", with().isBalanced(), 1);
        CHECKS.same("marks alone", marked(with(), 1, 63).isBalanced(), 1);
        for (int letters : new int[] {1, 7, 8, 9, 63, 64}) {
            LetterShelves x = marked(mixed(letters), 1, 8, 62);
            CHECKS.same("with " + letters, x.isBalanced(), 1);
            CHECKS.same("alike", alike(letters, 31).isBalanced(), 1);
            x.save();
            x.take(letters - 1);
            CHECKS.same("after take", x.isBalanced(), 1);
            x.insert(0, 30);
            CHECKS.same("after insert", x.isBalanced(), 1);
            x.undo();
            CHECKS.same("after undo", x.isBalanced(), 1);
            run(x, "put 5;in 0 6;swap 0;out 1");
            CHECKS.same("after run", x.isBalanced(), 1);
            run(x, "out 0;put 32");
            CHECKS.same("after a refusal", x.isBalanced(), 1);
            x.restore();
            CHECKS.same("after restore", x.isBalanced(), 1);
        }
    }

    private static void meanOfNone() {
        CHECKS.begin("Promise 33: 0.0 without letters");
        CHECKS.sameDouble("without letters", with().meanWeight(), 0.0);
        LetterShelves x = with(31);
        x.take(0);
        CHECKS.sameDouble("with none left", x.meanWeight(), 0.0);
    }

    private static void means() {
        CHECKS.begin("Promise 33: both converted to double, and not rounded");
        CHECKS.sameDouble("one letter of 0", with(0).meanWeight(), 0.0);
        CHECKS.sameDouble("one letter of 31", with(31).meanWeight(), 31.0);
        CHECKS.sameDouble("a half", with(0, 1).meanWeight(), 0.5);
        CHECKS.sameDouble("a third", with(0, 1, 0).meanWeight(), 1.0 / 3.0);
        CHECKS.sameDouble("a 63rd", mixedOnes(63).meanWeight(), 1.0 / 63.0);
        CHECKS.sameDouble("64 of 31", alike(64, 31).meanWeight(), 31.0);
        CHECKS.sameDouble("64", full().meanWeight(), 15.5);
    }

    /** One letter of 1 among so many. */
    private static LetterShelves mixedOnes(int letters) {
        LetterShelves x = alike(letters - 1, 0);
        x.put(1);
        return x;
    }

    private static void shareOfNone() {
        CHECKS.begin("Promise 34: 0.0f if there is no such row, or without letters");
        LetterShelves x = alike(64, 31);
        for (int wrong : WRONG_ROWS) {
            CHECKS.sameDouble("oneShare(" + wrong + ")", x.oneShare(wrong), 0.0f);
            CHECKS.sameDouble("both", with().oneShare(wrong), 0.0f);
        }
        LetterShelves y = with(31);
        y.take(0);
        for (int row = 0; row < 5; row++) {
            CHECKS.sameDouble("without letters", with().oneShare(row), 0.0f);
            CHECKS.sameDouble("with none left", y.oneShare(row), 0.0f);
            CHECKS.sameDouble("oneShare(" + row + ")", x.oneShare(row), 1.0f);
        }
    }

    private static void shares() {
        CHECKS.begin("Promise 34: both numbers converted to float, and not rounded");
        for (int row = 0; row < 5; row++) {
            int weight = new int[] {16, 8, 4, 2, 1}[row];
            CHECKS.sameDouble("none", with(31 - weight).oneShare(row), 0.0f);
            CHECKS.sameDouble("all", with(weight).oneShare(row), 1.0f);
            CHECKS.sameDouble("a third", with(weight, 0, 0).oneShare(row), 1.0f / 3.0f);
            CHECKS.sameDouble("a half", full().oneShare(row), 0.5f);
        }
        CHECKS.sameDouble("a 63rd", mixedOnes(63).oneShare(4), 1.0f / 63.0f);
        CHECKS.sameDouble("a 64th", mixedOnes(64).oneShare(4), 1.0f / 64.0f);
    }

    private static void undoWithoutChange() {
        CHECKS.begin("Promise 35: NOTHING if there is none");
        CHECKS.same("no change", with().undo(), NOTHING);
        LetterShelves x = with(5);
        CHECKS.same("one change", x.undo(), 0);
        CHECKS.same("letters", x.account(0), 0);
        CHECKS.same("no change left", x.undo(), NOTHING);
        CHECKS.same("no change left", x.undo(), NOTHING);
        CHECKS.same("letters", x.account(0), 0);
    }

    private static void undoEight() {
        CHECKS.begin("Changes: the latest 8 can be undone");
        for (int changes = 1; changes <= 8; changes++) {
            LetterShelves x = mixed(changes);
            CHECKS.same("changes", x.account(10), changes);
            for (int left = changes - 1; left >= 0; left--) {
                CHECKS.same("undo", x.undo(), left);
                CHECKS.same("account(10)", x.account(10), left);
                CHECKS.same("letters", x.account(0), left);
            }
            CHECKS.same("undo", x.undo(), NOTHING);
        }
    }

    private static void undoMoreThanEight() {
        CHECKS.begin("Changes: of more than 8, those before stay");
        for (int changes = 9; changes <= 40; changes++) {
            LetterShelves x = mixed(changes);
            CHECKS.same("changes", x.account(10), 8);
            for (int left = 7; left >= 0; left--) {
                CHECKS.same("undo", x.undo(), left);
                CHECKS.same("letters", x.account(0), changes - 8 + left);
                CHECKS.same("the last one", x.weight(changes - 9 + left), mixedWeight(changes - 9 + left));
            }
            CHECKS.same("the ninth", x.undo(), NOTHING);
            CHECKS.same("letters", x.account(0), changes - 8);
        }
    }

    private static void undoEachKind() {
        CHECKS.begin("Changes: the successful calls of put, insert, take, swap, mark and run");
        LetterShelves x = new LetterShelves();
        String[] due = {"", "4", "54", "45", "45", "4|5", "4|567", "4|67", "467"};
        x.put(4);
        x.insert(0, 5);
        x.swap(0);
        CHECKS.same("a mark where no letter stands", x.mark(9, true), 1);
        x.mark(1, true);
        run(x, "put 6;put 7");
        x.take(1);
        x.mark(1, false);
        CHECKS.same("changes", x.account(10), 8);
        CHECKS.sameText("after them", told(x), due[8]);
        int[] markedThen = {0, 0, 0, 0, 1, 2, 2, 2};
        int[] swapsThen = {0, 0, 0, 1, 1, 1, 1, 1};
        int[] takenThen = {0, 0, 0, 0, 0, 0, 0, 1};
        int[] cameThen = {0, 1, 2, 2, 2, 2, 4, 4};
        for (int left = 7; left >= 0; left--) {
            CHECKS.same("undo", x.undo(), left);
            CHECKS.sameText("tell", told(x), due[left]);
            CHECKS.same("marked", x.account(5), markedThen[left]);
            CHECKS.same("swaps", x.account(7), swapsThen[left]);
            CHECKS.same("taken", x.account(3), takenThen[left]);
            CHECKS.same("came", x.account(2), cameThen[left]);
            CHECKS.same("balanced", x.isBalanced(), 1);
        }
    }

    private static void undoWithoutDifference() {
        CHECKS.begin("Changes: also those by which nothing is different");
        LetterShelves x = with(4, 5);
        CHECKS.same("run", run(x, "swap 0;swap 0"), 2);
        CHECKS.same("run", run(x, "mark 1;clear 1"), 2);
        CHECKS.same("run", run(x, "put 1;out 2"), 2);
        CHECKS.sameText("nothing is different", told(x), "45");
        CHECKS.same("changes", x.account(10), 5);
        CHECKS.same("undo", x.undo(), 4);
        CHECKS.same("undo", x.undo(), 3);
        CHECKS.same("undo", x.undo(), 2);
        CHECKS.sameText("tell", told(x), "45");
        CHECKS.same("undo", x.undo(), 1);
        CHECKS.sameText("tell", told(x), "4");
    }

    private static void undoIsNoChange() {
        CHECKS.begin("Changes: undo, save, append, tell and what is asked for are none");
        LetterShelves x = with(4, 5, 6);
        x.undo();
        x.save();
        x.append(65);
        x.tell();
        x.tellRow(0);
        x.quantile(0, 2, 1);
        CHECKS.same("changes", x.account(10), 2);
        x.undo();
        CHECKS.sameText("tell", told(x), "4");
    }

    private static void codesAreNoChanges() {
        CHECKS.begin("Changes: the successful calls alone");
        LetterShelves x = marked(with(4, 4), 1);
        x.put(32);
        x.insert(3, 0);
        x.insert(0, 32);
        x.take(2);
        x.swap(0);
        x.swap(1);
        x.mark(1, true);
        x.mark(0, true);
        run(x, "put");
        run(x, "put 1;out 9");
        CHECKS.same("changes", x.account(10), 3);
        CHECKS.same("undo", x.undo(), 2);
        CHECKS.same("marked", x.account(5), 0);
        LetterShelves y = full();
        y.put(5);
        y.insert(0, 5);
        CHECKS.same("undo", y.undo(), 7);
        CHECKS.same("letters", y.account(0), 63);
    }

    private static void undoGoesRound() {
        CHECKS.begin("Changes: undone and changed in turn, more than 8 of each");
        LetterShelves x = new LetterShelves();
        for (int round = 0; round < 12; round++) {
            for (int change = 0; change < 5; change++) {
                x.put(round);
            }
            CHECKS.same("changes", x.account(10), round == 0 ? 5 : round == 1 ? 7 : 8);
            for (int time = 0; time < 3; time++) {
                x.undo();
            }
            CHECKS.same("letters", x.account(0), 2 * round + 2);
            CHECKS.same("changes", x.account(10), round == 0 ? 2 : round == 1 ? 4 : 5);
        }
        CHECKS.sameText("tell", told(x), "00112233445566778899aabb");
        for (int left = 4; left >= 0; left--) {
            CHECKS.same("undo", x.undo(), left);
        }
        CHECKS.same("undo", x.undo(), NOTHING);
        CHECKS.sameText("tell", told(x), "00112233445566778899".substring(0, 19));
    }

    private static void saveLetters() {
        CHECKS.begin("Promise 36: returns the letters");
        CHECKS.same("without letters", with().save(), 0);
        CHECKS.same("one letter", with(5).save(), 1);
        CHECKS.same("64 letters", full().save(), 64);
        CHECKS.same("marks alone", marked(with(), 1).save(), 0);
    }

    private static void saveInPlaceOfTheEarlier() {
        CHECKS.begin("Promise 36: in place of an earlier snapshot");
        LetterShelves x = marked(with(4, 5, 6), 1);
        CHECKS.same("save", x.save(), 3);
        x.take(0);
        x.mark(1, false);
        CHECKS.same("save", x.save(), 2);
        x.put(9);
        CHECKS.same("restore", x.restore(), 2);
        CHECKS.sameText("tell", told(x), "56");
        CHECKS.same("marked", x.account(5), 0);
    }

    private static void saveIsNoChange() {
        CHECKS.begin("Promise 36: changes can be undone after it, and it is not undone");
        LetterShelves x = with(4, 5, 6);
        x.save();
        CHECKS.same("changes", x.account(10), 3);
        CHECKS.same("undo", x.undo(), 2);
        CHECKS.same("undo", x.undo(), 1);
        CHECKS.same("restore", x.restore(), 3);
        CHECKS.sameText("tell", told(x), "456");
    }

    private static void restoreWithoutSnapshot() {
        CHECKS.begin("Promise 37: NOTHING if there is no snapshot");
        CHECKS.same("restore", with().restore(), NOTHING);
        LetterShelves x = marked(with(4, 5), 1);
        CHECKS.same("restore", x.restore(), NOTHING);
        CHECKS.same("changes", x.account(10), 3);
        CHECKS.sameText("tell", told(x), "4|5");
        CHECKS.same("undo", x.undo(), 2);
        LetterShelves y = new LetterShelves();
        y.save();
        y.put(5);
        CHECKS.same("one without letters is a snapshot", y.restore(), 0);
        CHECKS.same("letters", y.account(0), 0);
    }

    private static void restoreAll() {
        CHECKS.begin("Promise 37: all that changes can change, and not the text, the line and the reason");
        LetterShelves x = marked(with(4, 5, 6), 1, 40);
        x.swap(0);
        x.take(2);
        x.save();
        x.swap(0);
        x.take(0);
        x.mark(1, false);
        x.mark(63, true);
        x.put(31);
        x.tell();
        write(x, "put 7");
        x.mark(63, true);
        CHECKS.same("restore", x.restore(), 2);
        accountsAre(x, 2, 9, 3, 1, 2, 2, 2, 1, 3, 5, 0);
        CHECKS.same("the line", x.character(1), 'v');
        reasonIs(x, 3, 63);
        CHECKS.sameText("tell", told(x), "5|4");
        CHECKS.same("the mark 40", x.mark(40, true), REFUSED);
        CHECKS.same("the mark 63", x.mark(63, false), REFUSED);
        CHECKS.same("the text", x.run(), 1);
        CHECKS.sameText("tell", told(x), "5|47");
    }

    private static void restoreStays() {
        CHECKS.begin("Promise 37: the snapshot, which stays");
        LetterShelves x = with(4, 5);
        x.save();
        for (int time = 0; time < 3; time++) {
            x.put(time);
            x.take(0);
            x.mark(2, true);
            CHECKS.same("restore", x.restore(), 2);
            CHECKS.sameText("tell", told(x), "45");
            CHECKS.same("marked", x.account(5), 0);
            CHECKS.same("came", x.account(2), 2);
        }
        CHECKS.same("restore at once", x.restore(), 2);
        x.put(3);
        x.undo();
        x.swap(0);
        x.undo();
        CHECKS.same("restore after undo", x.restore(), 2);
        CHECKS.sameText("tell", told(x), "45");
    }

    private static void restoreWithoutUndo() {
        CHECKS.begin("Promise 37: nothing can be undone then");
        LetterShelves x = mixed(12);
        x.save();
        CHECKS.same("restore", x.restore(), 12);
        CHECKS.same("changes", x.account(10), 0);
        CHECKS.same("undo", x.undo(), NOTHING);
        CHECKS.same("letters", x.account(0), 12);
        for (int change = 1; change <= 10; change++) {
            x.put(change);
            CHECKS.same("changes", x.account(10), change < 8 ? change : 8);
        }
        for (int left = 7; left >= 0; left--) {
            CHECKS.same("undo", x.undo(), left);
        }
        CHECKS.same("undo", x.undo(), NOTHING);
        CHECKS.same("letters", x.account(0), 14);
    }

    private static void textAndLineStay() {
        CHECKS.begin("Codes: the text and the line are neither undone nor saved, and stay");
        LetterShelves x = with(4, 5);
        write(x, "put ");
        x.tell();
        x.save();
        x.put(6);
        write(x, "7");
        x.tellRow(4);
        CHECKS.same("undo", x.undo(), 2);
        CHECKS.same("the text after undo", x.account(9), 5);
        CHECKS.sameText("the line after undo", line(x, 3), "010");
        CHECKS.same("restore", x.restore(), 2);
        CHECKS.same("the text after restore", x.account(9), 5);
        CHECKS.sameText("the line after restore", line(x, 3), "010");
        CHECKS.same("the text is whole", x.run(), 1);
        CHECKS.same("restore", x.restore(), 2);
        CHECKS.same("the text that was emptied", x.account(9), 0);
        run(x, "put 8");
        CHECKS.same("undo", x.undo(), 0);
        CHECKS.same("the text is not undone", x.account(9), 0);
    }

    private static void restoreManyAndFew() {
        CHECKS.begin("Promise 37: the letters, of 64 and of none");
        LetterShelves x = full();
        x.save();
        for (int time = 0; time < 64; time++) {
            x.take(0);
        }
        CHECKS.same("restore", x.restore(), 64);
        for (int place = 0; place < 64; place++) {
            CHECKS.same("weight", x.weight(place), mixedWeight(place));
            CHECKS.same("weightAgain", x.weightAgain(place), mixedWeight(place));
        }
        LetterShelves y = new LetterShelves();
        y.save();
        for (int place = 0; place < 64; place++) {
            y.put(31);
        }
        CHECKS.same("restore", y.restore(), 0);
        for (int row = 0; row < 5; row++) {
            CHECKS.same("bits", y.bits(row), 0);
        }
        CHECKS.same("weight", y.weight(0), NONE);
        CHECKS.same("bags", y.account(4), 0);
        CHECKS.same("tell", y.tell(), 0);
    }
}
