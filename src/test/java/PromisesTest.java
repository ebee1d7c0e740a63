/** For each promise: ordinary inputs, the edges that the document names, and wrong inputs. */
final class PromisesTest extends Trial {
    private PromisesTest() {
    }

    public static void main(String[] args) {
        newObject();
        lettersCome();
        lettersGo();
        lettersSwap();
        marks();
        weights();
        bits();
        counts();
        placesOfBits();
        sizes();
        partsByWeight();
        findings();
        commonWeights();
        bags();
        bagOrder();
        texts();
        faults();
        ordersThatFail();
        lines();
        reasons();
        accounts();
        means();
        undoing();
        snapshots();
        CHECKS.end();
    }

    private static void newObject() {
        CHECKS.begin("1 new object");
        LetterShelves x = new LetterShelves();
        for (int what = 0; what <= 10; what++) {
            CHECKS.same("account(" + what + ")", x.account(what), 0);
        }
        CHECKS.same("reason", x.reason(false), NOTHING);
        CHECKS.same("character", x.character(0), NONE);
        CHECKS.same("undo", x.undo(), NOTHING);
        CHECKS.same("restore", x.restore(), NOTHING);
        CHECKS.same("isBalanced", x.isBalanced(), 1);
        CHECKS.same("quantile", x.quantile(0, 0, 0), NONE);
        CHECKS.same("count", x.count(0, 0, 0), 0);
        CHECKS.same("lighter", x.lighter(0, 0, 31), 0);
        CHECKS.same("atLeast", x.atLeast(0, 0, 0), NOTHING);
        CHECKS.same("rank", x.rank(0, false, 0), 0);
        CHECKS.same("ranked", x.ranked(0), NONE);
        CHECKS.same("tell", x.tell(), 0);
        CHECKS.same("tellRow", x.tellRow(4), 0);
    }

    private static void lettersCome() {
        CHECKS.begin("2 put, 3 insert");
        LetterShelves x = with();
        CHECKS.same("put(0)", x.put(0), 0);
        CHECKS.same("put(31)", x.put(31), 1);
        for (int wrong : WRONG_WEIGHTS) {
            CHECKS.same("put(" + wrong + ")", x.put(wrong), BAD);
            CHECKS.same("insert(0, " + wrong + ")", x.insert(0, wrong), BAD);
            CHECKS.same("insert(3, " + wrong + ")", x.insert(3, wrong), NONE);
        }
        CHECKS.same("insert(0, 1)", x.insert(0, 1), 3);
        CHECKS.same("insert(2, 2)", x.insert(2, 2), 4);
        CHECKS.same("insert(4, 3)", x.insert(4, 3), 5);
        CHECKS.sameText("tell", told(x), "102v3");
        CHECKS.same("insert(6, 0)", x.insert(6, 0), NONE);
        CHECKS.same("insert(-1, 0)", x.insert(-1, 0), NONE);
        CHECKS.same("account(2)", x.account(2), 5);
        CHECKS.same("account(10)", x.account(10), 5);
        x = full();
        CHECKS.same("put ahead of refusal", x.put(32), BAD);
        CHECKS.same("nothing refused", x.reason(false), NOTHING);
        CHECKS.same("put(0)", x.put(0), REFUSED);
        CHECKS.same("reason", x.reason(false), 1);
        CHECKS.same("detail", x.reason(true), 64);
        x = full();
        CHECKS.same("insert(65, 0)", x.insert(65, 0), NONE);
        CHECKS.same("insert(0, 32)", x.insert(0, 32), BAD);
        CHECKS.same("insert(0, 0)", x.insert(0, 0), REFUSED);
        CHECKS.same("reason", x.reason(false), 1);
        CHECKS.same("letters", x.account(0), 64);
        CHECKS.same("came", x.account(2), 64);
    }

    private static void lettersGo() {
        CHECKS.begin("4 take");
        LetterShelves x = with(4, 5, 6, 7);
        CHECKS.same("take(4)", x.take(4), NONE);
        CHECKS.same("take(-1)", x.take(-1), NONE);
        CHECKS.same("take(max)", x.take(Integer.MAX_VALUE), NONE);
        CHECKS.same("take(1)", x.take(1), 5);
        CHECKS.sameText("tell", told(x), "467");
        CHECKS.same("take(2)", x.take(2), 7);
        CHECKS.same("take(0)", x.take(0), 4);
        CHECKS.same("take(0)", x.take(0), 6);
        CHECKS.same("take(0)", x.take(0), NONE);
        CHECKS.same("taken", x.account(3), 4);
        CHECKS.same("came", x.account(2), 4);
        CHECKS.same("balanced", x.isBalanced(), 1);
        x = full();
        CHECKS.same("take(63)", x.take(63), 27);
        CHECKS.same("put(9)", x.put(9), 63);
    }

    private static void lettersSwap() {
        CHECKS.begin("5 swap");
        LetterShelves x = with(4, 5, 5);
        CHECKS.same("swap(2)", x.swap(2), NONE);
        CHECKS.same("swap(3)", x.swap(3), NONE);
        CHECKS.same("swap(-1)", x.swap(-1), NONE);
        CHECKS.same("swap(max)", x.swap(Integer.MAX_VALUE), NONE);
        CHECKS.same("swap(1)", x.swap(1), REFUSED);
        CHECKS.same("reason", x.reason(false), 2);
        CHECKS.same("detail", x.reason(true), 5);
        CHECKS.same("swap(0)", x.swap(0), 5);
        CHECKS.sameText("tell", told(x), "545");
        CHECKS.same("swaps", x.account(7), 1);
        CHECKS.same("balanced", x.isBalanced(), 1);
        CHECKS.same("empty", with().swap(0), NONE);
    }

    private static void marks() {
        CHECKS.begin("6 mark");
        LetterShelves x = with();
        CHECKS.same("mark(0)", x.mark(0, true), NONE);
        CHECKS.same("mark(0, false)", x.mark(0, false), NONE);
        CHECKS.same("mark(64)", x.mark(64, true), NONE);
        CHECKS.same("mark(65)", x.mark(65, true), NONE);
        CHECKS.same("mark(-1)", x.mark(-1, true), NONE);
        CHECKS.same("mark(1)", x.mark(1, true), 1);
        CHECKS.same("mark(63)", x.mark(63, true), 2);
        CHECKS.same("mark(63)", x.mark(63, true), REFUSED);
        CHECKS.same("reason", x.reason(false), 3);
        CHECKS.same("detail", x.reason(true), 63);
        CHECKS.same("mark(2, false)", x.mark(2, false), REFUSED);
        CHECKS.same("detail", x.reason(true), 2);
        CHECKS.same("mark(1, false)", x.mark(1, false), 1);
        CHECKS.same("bags without letters", x.account(4), 0);
    }

    private static void weights() {
        CHECKS.begin("7 weight, 8 weightAgain");
        LetterShelves x = with();
        for (int weight = 0; weight < 32; weight++) {
            x.put(weight * 7 % 32);
        }
        for (int place = 0; place < 32; place++) {
            CHECKS.same("weight(" + place + ")", x.weight(place), place * 7 % 32);
            CHECKS.same("weightAgain(" + place + ")", x.weightAgain(place), place * 7 % 32);
        }
        for (int wrong : new int[] {-1, 32, 64, Integer.MIN_VALUE, Integer.MAX_VALUE}) {
            CHECKS.same("weight(" + wrong + ")", x.weight(wrong), NONE);
            CHECKS.same("weightAgain(" + wrong + ")", x.weightAgain(wrong), NONE);
        }
        x.take(31);
        CHECKS.same("weight(31)", x.weight(31), NONE);
    }

    private static void bits() {
        CHECKS.begin("9 bit, 10 bits");
        LetterShelves x = with(16, 8, 4, 2, 1);
        CHECKS.same("bits(0)", x.bits(0), 1);
        CHECKS.same("bits(1)", x.bits(1), 1);
        CHECKS.same("bits(2)", x.bits(2), 1);
        CHECKS.same("bits(3)", x.bits(3), 1);
        CHECKS.same("bits(4)", x.bits(4), 1);
        CHECKS.same("bit(0, 0)", x.bit(0, 0), 1);
        CHECKS.same("bit(0, 4)", x.bit(0, 4), 0);
        CHECKS.same("bit(0, 5)", x.bit(0, 5), NONE);
        CHECKS.same("bit(0, -1)", x.bit(0, -1), NONE);
        CHECKS.same("bit(0, 64)", x.bit(0, 64), NONE);
        for (int wrong : WRONG_ROWS) {
            CHECKS.same("bit(" + wrong + ", 0)", x.bit(wrong, 0), NONE);
            CHECKS.same("bits(" + wrong + ")", x.bits(wrong), 0);
        }
        x = with();
        for (int place = 0; place < 64; place++) {
            x.put(31);
        }
        CHECKS.same("bits(4)", x.bits(4), -1L);
        CHECKS.same("bit(4, 63)", x.bit(4, 63), 1);
        x.take(0);
        CHECKS.same("bits(4)", x.bits(4), Long.MAX_VALUE);
    }

    private static void counts() {
        CHECKS.begin("11 rank, 12 rankAgain");
        LetterShelves x = with();
        for (int place = 0; place < 20; place++) {
            x.put(place % 2 == 0 ? 31 : 0);
        }
        for (int place = 0; place <= 20; place++) {
            CHECKS.same("rank 1 at " + place, x.rank(0, true, place), (place + 1) / 2);
            CHECKS.same("rank 0 at " + place, x.rank(0, false, place), place / 2);
            CHECKS.same("rankAgain 1 at " + place, x.rankAgain(0, true, place), (place + 1) / 2);
            CHECKS.same("rankAgain 0 at " + place, x.rankAgain(0, false, place), place / 2);
        }
        for (int wrong : new int[] {-1, 21, 64, Integer.MIN_VALUE, Integer.MAX_VALUE}) {
            CHECKS.same("rank at " + wrong, x.rank(0, true, wrong), NONE);
            CHECKS.same("rankAgain at " + wrong, x.rankAgain(0, true, wrong), NONE);
        }
        for (int wrong : WRONG_ROWS) {
            CHECKS.same("rank in " + wrong, x.rank(wrong, true, 0), NONE);
            CHECKS.same("rankAgain in " + wrong, x.rankAgain(wrong, true, 0), NONE);
        }
        CHECKS.same("rank(0, true, 64)", full().rank(0, true, 64), 32);
        CHECKS.same("rankAgain(0, false, 64)", full().rankAgain(0, false, 64), 32);
    }

    private static void placesOfBits() {
        CHECKS.begin("13 select, 14 placeIn");
        LetterShelves x = with();
        for (int place = 0; place < 20; place++) {
            x.put(place % 3 == 0 ? 16 : 1);
        }
        for (int ahead = 0; ahead < 7; ahead++) {
            CHECKS.same("select 1 by " + ahead, x.select(0, true, ahead), ahead * 3);
        }
        for (int ahead = 0; ahead < 13; ahead++) {
            CHECKS.same("select 0 by " + ahead, x.select(0, false, ahead), ahead * 3 / 2 + 1);
        }
        CHECKS.same("select 1 by 7", x.select(0, true, 7), NOTHING);
        CHECKS.same("select 0 by 13", x.select(0, false, 13), NOTHING);
        CHECKS.same("select by -1", x.select(0, true, -1), NOTHING);
        CHECKS.same("select by max", x.select(0, true, Integer.MAX_VALUE), NOTHING);
        CHECKS.same("select by min", x.select(0, false, Integer.MIN_VALUE), NOTHING);
        for (int wrong : WRONG_ROWS) {
            CHECKS.same("select in " + wrong, x.select(wrong, true, -1), NONE);
            CHECKS.same("placeIn " + wrong, x.placeIn(wrong, 0), NONE);
        }
        CHECKS.same("the last 1 of 64", full().select(0, true, 31), 63);
        CHECKS.same("the last 0 of 64", full().select(0, false, 31), 60);
        CHECKS.same("no 1 behind it", full().select(0, true, 32), NOTHING);
        CHECKS.same("placeIn(0, 3)", x.placeIn(0, 3), 3);
        CHECKS.same("placeIn(1, 0)", x.placeIn(1, 0), 13);
        CHECKS.same("placeIn(1, 1)", x.placeIn(1, 1), 0);
        CHECKS.same("placeIn(4, 19)", x.placeIn(4, 19), 12);
        CHECKS.same("placeIn(0, 20)", x.placeIn(0, 20), NONE);
        CHECKS.same("placeIn(0, -1)", x.placeIn(0, -1), NONE);
    }

    private static void sizes() {
        CHECKS.begin("15 quantile, 16 quantileAgain");
        LetterShelves x = with(9, 31, 0, 9, 16, 2);
        int[] sorted = {0, 9, 9, 16};
        for (int place = 0; place < 4; place++) {
            CHECKS.same("quantile", x.quantile(2, 6, place), new int[] {0, 2, 9, 16}[place]);
            CHECKS.same("quantileAgain", x.quantileAgain(2, 6, place), new int[] {0, 2, 9, 16}[place]);
        }
        CHECKS.same("quantile(0, 5, 3)", x.quantile(0, 5, 3), sorted[3]);
        CHECKS.same("quantileAgain(0, 5, 4)", x.quantileAgain(0, 5, 4), 31);
        int[][] wrong = {{2, 6, 4}, {2, 6, -1}, {2, 2, 0}, {3, 2, 0}, {-1, 3, 0}, {0, 7, 0}, {7, 7, 0},
            {Integer.MIN_VALUE, Integer.MAX_VALUE, 0}};
        for (int[] part : wrong) {
            CHECKS.same("quantile", x.quantile(part[0], part[1], part[2]), NONE);
            CHECKS.same("quantileAgain", x.quantileAgain(part[0], part[1], part[2]), NONE);
        }
    }

    private static void partsByWeight() {
        CHECKS.begin("17 count, 18 lighter, 19 atLeast");
        LetterShelves x = with(9, 31, 0, 9, 16, 2);
        CHECKS.same("count(0, 6, 9)", x.count(0, 6, 9), 2);
        CHECKS.same("count(1, 6, 9)", x.count(1, 6, 9), 1);
        CHECKS.same("count(1, 3, 9)", x.count(1, 3, 9), 0);
        CHECKS.same("lighter(0, 6, 9)", x.lighter(0, 6, 9), 2);
        CHECKS.same("lighter(0, 6, 31)", x.lighter(0, 6, 31), 5);
        CHECKS.same("lighter(0, 6, 0)", x.lighter(0, 6, 0), 0);
        CHECKS.same("atLeast(0, 6, 10)", x.atLeast(0, 6, 10), 16);
        CHECKS.same("atLeast(0, 6, 9)", x.atLeast(0, 6, 9), 9);
        CHECKS.same("atLeast(2, 6, 17)", x.atLeast(2, 6, 17), NOTHING);
        CHECKS.same("atLeast(1, 2, 0)", x.atLeast(1, 2, 0), 31);
        CHECKS.same("atLeast(3, 3, 0)", x.atLeast(3, 3, 0), NOTHING);
        CHECKS.same("count(6, 6, 0)", x.count(6, 6, 0), 0);
        CHECKS.same("lighter(6, 6, 31)", x.lighter(6, 6, 31), 0);
        int[][] parts = {{-1, 3}, {0, 7}, {3, 2}, {7, 7}, {Integer.MIN_VALUE, Integer.MAX_VALUE}};
        for (int[] part : parts) {
            for (int weight : new int[] {0, 32}) {
                CHECKS.same("count", x.count(part[0], part[1], weight), NONE);
                CHECKS.same("lighter", x.lighter(part[0], part[1], weight), NONE);
                CHECKS.same("atLeast", x.atLeast(part[0], part[1], weight), NONE);
            }
        }
        for (int wrong : WRONG_WEIGHTS) {
            CHECKS.same("count", x.count(0, 0, wrong), BAD);
            CHECKS.same("lighter", x.lighter(0, 6, wrong), BAD);
            CHECKS.same("atLeast", x.atLeast(0, 6, wrong), BAD);
        }
    }

    private static void findings() {
        CHECKS.begin("20 find");
        LetterShelves x = with(9, 31, 0, 9, 16, 0, 9);
        CHECKS.same("find(9, 0)", x.find(9, 0), 0);
        CHECKS.same("find(9, 1)", x.find(9, 1), 3);
        CHECKS.same("find(9, 2)", x.find(9, 2), 6);
        CHECKS.same("find(9, 3)", x.find(9, 3), NOTHING);
        CHECKS.same("find(0, 1)", x.find(0, 1), 5);
        CHECKS.same("find(31, 0)", x.find(31, 0), 1);
        CHECKS.same("find(30, 0)", x.find(30, 0), NOTHING);
        LetterShelves y = full();
        for (int weight = 0; weight < 32; weight++) {
            CHECKS.same("find(" + weight + ", 0)", y.find(weight, 0), weight * 13 % 32);
            CHECKS.same("find(" + weight + ", 1)", y.find(weight, 1), weight * 13 % 32 + 32);
            CHECKS.same("find(" + weight + ", 2)", y.find(weight, 2), NOTHING);
        }
        CHECKS.same("find(9, -1)", x.find(9, -1), NOTHING);
        CHECKS.same("find(9, max)", x.find(9, Integer.MAX_VALUE), NOTHING);
        for (int wrong : WRONG_WEIGHTS) {
            CHECKS.same("find(" + wrong + ", -1)", x.find(wrong, -1), BAD);
        }
    }

    private static void commonWeights() {
        CHECKS.begin("21 common");
        LetterShelves x = with(9, 31, 0, 9, 31, 2, 31);
        int[] order = {31, 9, 0, 2};
        for (int place = 0; place < 4; place++) {
            CHECKS.same("common(0, 7, " + place + ")", x.common(0, 7, place), order[place]);
        }
        CHECKS.same("common(0, 7, 4)", x.common(0, 7, 4), NONE);
        CHECKS.same("common(0, 7, -1)", x.common(0, 7, -1), NONE);
        CHECKS.same("common(0, 5, 0)", x.common(0, 5, 0), 9);
        CHECKS.same("common(3, 3, 0)", x.common(3, 3, 0), NONE);
        CHECKS.same("common(4, 3, 0)", x.common(4, 3, 0), NONE);
        CHECKS.same("common(0, 8, 0)", x.common(0, 8, 0), NONE);
        CHECKS.same("common(-1, 2, 0)", x.common(-1, 2, 0), NONE);
    }

    private static void bags() {
        CHECKS.begin("22 bagOf, 23 bagAt");
        LetterShelves x = with(9, 31, 0, 9, 16, 0, 9, 1);
        x.mark(3, true);
        x.mark(7, true);
        x.mark(8, true);
        int[][] due = {{0, 3, 40, 9, 31, 3}, {3, 4, 34, 9, 16, 3}, {7, 1, 1, 1, 1, 1}};
        for (int bag = 0; bag < 3; bag++) {
            for (int what = 0; what <= 5; what++) {
                CHECKS.same("bagOf(" + bag + ", " + what + ")", x.bagOf(bag, what), due[bag][what]);
            }
            CHECKS.same("bagOf(" + bag + ", 6)", x.bagOf(bag, 6), BAD);
            CHECKS.same("bagOf(" + bag + ", -1)", x.bagOf(bag, -1), BAD);
        }
        for (int wrong : new int[] {-1, 3, Integer.MIN_VALUE, Integer.MAX_VALUE}) {
            CHECKS.same("bagOf(" + wrong + ", 0)", x.bagOf(wrong, 0), NONE);
            CHECKS.same("bagOf(" + wrong + ", 9)", x.bagOf(wrong, 9), NONE);
        }
        int[] bagOfPlace = {0, 0, 0, 1, 1, 1, 1, 2, NONE};
        for (int place = 0; place <= 8; place++) {
            CHECKS.same("bagAt(" + place + ")", x.bagAt(place), bagOfPlace[place]);
        }
        CHECKS.same("bagAt(-1)", x.bagAt(-1), NONE);
        CHECKS.same("median of 2", with(8, 3).bagOf(0, 3), 3);
        CHECKS.same("median of 4", with(8, 3, 6, 1).bagOf(0, 3), 3);
        CHECKS.same("median of 5", with(8, 3, 6, 1, 9).bagOf(0, 3), 6);
        x.put(2);
        CHECKS.same("a mark begins a bag when letters come", x.bagOf(3, 0), 8);
        x.take(0);
        CHECKS.same("a mark stays with its place", x.bagOf(1, 0), 3);
        CHECKS.same("a mark without letters begins no bag", x.bagOf(3, 0), NONE);
        CHECKS.same("bagOf(1, 2)", x.bagOf(1, 2), 26);
    }

    private static void bagOrder() {
        CHECKS.begin("24 ranked");
        LetterShelves x = with(4, 4, 8, 2, 2, 2, 2, 8, 30);
        for (int place : new int[] {2, 3, 7, 8}) {
            x.mark(place, true);
        }
        int[] due = {4, 1, 3, 0, 2};
        for (int place = 0; place < 5; place++) {
            CHECKS.same("ranked(" + place + ")", x.ranked(place), due[place]);
        }
        CHECKS.same("ranked(5)", x.ranked(5), NONE);
        CHECKS.same("ranked(-1)", x.ranked(-1), NONE);
    }

    private static void texts() {
        CHECKS.begin("25 append, 26 run");
        LetterShelves x = with();
        for (int wrong : new int[] {31, 127, -1, 256, 65536 + 65, Integer.MIN_VALUE, Integer.MAX_VALUE}) {
            CHECKS.same("append(" + wrong + ")", x.append(wrong), BAD);
        }
        CHECKS.same("append(32)", x.append(32), 1);
        CHECKS.same("append(126)", x.append(126), 2);
        for (int size = 3; size <= 60; size++) {
            CHECKS.same("append", x.append('a'), size);
        }
        CHECKS.same("append to a full text", x.append('a'), FULL);
        CHECKS.same("a bad code to a full text", x.append(127), BAD);
        CHECKS.same("text", x.account(9), 60);
        CHECKS.same("run", x.run(), -1000);
        CHECKS.same("text", x.account(9), 0);
        CHECKS.same("run", run(x, "put 31;in 0 05;in 1 9;mark 1;mark 2;swap 0;out 2"), 7);
        CHECKS.sameText("tell", told(x), "9|5");
        CHECKS.same("rows after run", x.weightAgain(0), 9);
        CHECKS.same("rows after run", x.find(5, 0), 1);
        CHECKS.same("bags after run", x.bagOf(1, 2), 5);
        CHECKS.same("clear", run(x, "clear 1"), 1);
        CHECKS.sameText("tell", told(x), "95");
        CHECKS.same("put", run(x, "put 0;put 00;put 1;put 01"), 4);
        CHECKS.sameText("tell", told(x), "95|0011");
        CHECKS.same("text of ten orders", run(with(), "put 1;put 2;put 3;put 4;put 5;put 6;put 7;put 8;put 9;put 10"), 10);
        CHECKS.same("changes", x.account(10), 3);
        CHECKS.same("nothing is different", run(x, "swap 0;swap 0;mark 63;clear 63"), 4);
        CHECKS.same("changes", x.account(10), 4);
        CHECKS.same("swaps", x.account(7), 3);
        CHECKS.same("came", x.account(2), 7);
        CHECKS.same("taken", x.account(3), 1);
    }

    private static void faults() {
        CHECKS.begin("26 fault positions");
        String[] texts = {"", " ", "p", "q", "pu", "put", "put ", "putt", "put  ", "put x", "put 320", "put 32 ",
            "put 3;", "put 3;;", "put 3; ", "put 3,", "put 3;x", "put -1", "in 1", "in 11", "in 111", "in 1 ", "in 1;",
            "in 1 2 ", "in 1 222", "in  1", "out", "out 1 2", "swop 1", "swap", "swap a", "mork", "mark 1 ", "clear",
            "cleat", "clear  ", "PUT 1", "in 1  ", "put 1;put 2;sw", "put 1;put 2;swaq", "i", "ix", "put 1put 2"};
        int[] due = {0, 0, 1, 0, 2, 3, 4, 3, 4, 4, 6, 6, 6, 6, 6, 5, 6, 4, 4, 5, 5, 5, 4, 6, 7, 3, 3, 5, 2, 4, 5, 1, 6,
            5, 4, 6, 0, 5, 14, 15, 1, 1, 5};
        for (int index = 0; index < texts.length; index++) {
            LetterShelves x = with(1, 2, 3);
            CHECKS.same("run of \"" + texts[index] + "\"", run(x, texts[index]), -1000 - due[index]);
            CHECKS.same("letters", x.account(0), 3);
            CHECKS.same("text", x.account(9), 0);
            CHECKS.same("changes", x.account(10), 3);
            CHECKS.same("reason", x.reason(false), NOTHING);
        }
    }

    private static void ordersThatFail() {
        CHECKS.begin("26 orders that can not be carried out");
        String[] texts = {"put 32", "put 99", "in 4 0", "in 0 32", "out 3", "swap 2", "swap 1", "mark 0", "mark 64",
            "mark 2", "clear 0", "clear 3", "clear 64", "put 1;out 3;out 3", "out 0;out 0;out 0;out 0", "mark 5;mark 5",
            "clear 2;clear 2", "put 1;swap 2;swap 2;swap 9"};
        int[] due = {0, 0, 0, 0, 0, 0, 0, 0, 0, 0, 0, 0, 0, 2, 3, 1, 1, 3};
        for (int index = 0; index < texts.length; index++) {
            LetterShelves x = with(1, 2, 2);
            x.mark(2, true);
            CHECKS.same("run of \"" + texts[index] + "\"", run(x, texts[index]), REFUSED);
            CHECKS.same("reason", x.reason(false), 4);
            CHECKS.same("detail of \"" + texts[index] + "\"", x.reason(true), due[index]);
            CHECKS.sameText("tell", told(x), "12|2");
            CHECKS.same("text", x.account(9), 0);
            CHECKS.same("changes", x.account(10), 4);
            CHECKS.same("came", x.account(2), 3);
            CHECKS.same("taken", x.account(3), 0);
            CHECKS.same("swaps", x.account(7), 0);
            CHECKS.same("balanced", x.isBalanced(), 1);
        }
        LetterShelves x = full();
        CHECKS.same("no room", run(x, "out 0;put 1;put 1"), REFUSED);
        CHECKS.same("detail", x.reason(true), 2);
        CHECKS.same("no room", run(x, "in 64 1"), REFUSED);
        CHECKS.same("room", run(x, "out 0;in 63 1"), 2);
        CHECKS.same("weight", x.weight(63), 1);
    }

    private static void lines() {
        CHECKS.begin("27 tell, 28 tellRow, 29 character");
        LetterShelves x = with(3, 10, 0, 31, 9);
        x.mark(2, true);
        x.mark(5, true);
        CHECKS.same("tell", x.tell(), 6);
        CHECKS.sameText("tell", told(x), "3a|0v9");
        for (int wrong : WRONG_ROWS) {
            CHECKS.same("tellRow(" + wrong + ")", x.tellRow(wrong), NONE);
        }
        CHECKS.same("the line stays", x.character(2), '|');
        CHECKS.same("character(6)", x.character(6), NONE);
        CHECKS.same("character(-1)", x.character(-1), NONE);
        CHECKS.same("character(max)", x.character(Integer.MAX_VALUE), NONE);
        CHECKS.sameText("tellRow(0)", toldRow(x, 0), "00010");
        CHECKS.sameText("tellRow(1)", toldRow(x, 1), "01011");
        CHECKS.same("the line is shorter", x.character(5), NONE);
        x.put(1);
        CHECKS.same("the line is no view", x.character(5), NONE);
        x = with();
        for (int place = 0; place < 63; place++) {
            x.put(place == 8 ? 16 : 15);
            x.mark(place + 1, true);
            CHECKS.same("tellRow", x.tellRow(0), place + 1 + place / 8);
        }
        x.put(0);
        CHECKS.same("tell", x.tell(), 127);
        CHECKS.same("character(126)", x.character(126), '0');
        CHECKS.same("character(125)", x.character(125), '|');
        CHECKS.sameText("tellRow(0)", toldRow(x, 0),
                "00000000 10000000 00000000 00000000 00000000 00000000 00000000 00000000");
    }

    private static void reasons() {
        CHECKS.begin("30 reason");
        LetterShelves x = with(7, 7, 1);
        CHECKS.same("detail", x.reason(true), NOTHING);
        x.put(99);
        x.take(9);
        CHECKS.same("no refusal", x.reason(true), NOTHING);
        x.swap(0);
        CHECKS.same("reason", x.reason(false), 2);
        x.put(2);
        x.undo();
        x.save();
        x.restore();
        CHECKS.same("it stays", x.reason(false), 2);
        CHECKS.same("its detail stays", x.reason(true), 7);
        x.mark(9, false);
        CHECKS.same("the latest", x.reason(false), 3);
        CHECKS.same("its detail", x.reason(true), 9);
        run(x, "put 0;out 9");
        CHECKS.same("the latest", x.reason(false), 4);
        CHECKS.same("its detail", x.reason(true), 1);
        run(x, "nothing");
        CHECKS.same("no refusal", x.reason(false), 4);
    }

    private static void accounts() {
        CHECKS.begin("31 account, 32 isBalanced");
        LetterShelves x = with(7, 31, 7, 16);
        x.mark(1, true);
        x.mark(2, true);
        x.mark(60, true);
        x.take(0);
        x.swap(0);
        write(x, "put");
        int[] due = {3, 54, 4, 1, 3, 3, 3, 1, 9, 3, 8};
        for (int what = 0; what <= 10; what++) {
            CHECKS.same("account(" + what + ")", x.account(what), due[what]);
        }
        for (int wrong : new int[] {-1, 11, Integer.MIN_VALUE, Integer.MAX_VALUE}) {
            CHECKS.same("account(" + wrong + ")", x.account(wrong), BAD);
        }
        CHECKS.same("isBalanced", x.isBalanced(), 1);
        x.undo();
        CHECKS.same("isBalanced", x.isBalanced(), 1);
        x.undo();
        CHECKS.same("isBalanced", x.isBalanced(), 1);
        CHECKS.same("isBalanced", full().isBalanced(), 1);
    }

    private static void means() {
        CHECKS.begin("33 meanWeight, 34 oneShare");
        LetterShelves x = with(31, 0, 3);
        CHECKS.sameDouble("meanWeight", x.meanWeight(), 34.0 / 3.0);
        CHECKS.sameDouble("oneShare(0)", x.oneShare(0), 1.0f / 3.0f);
        CHECKS.sameDouble("oneShare(4)", x.oneShare(4), 2.0f / 3.0f);
        for (int wrong : WRONG_ROWS) {
            CHECKS.sameDouble("oneShare(" + wrong + ")", x.oneShare(wrong), 0.0);
        }
        CHECKS.sameDouble("one letter", with(7).meanWeight(), 7.0);
        CHECKS.sameDouble("one letter", with(7).oneShare(2), 1.0);
        CHECKS.sameDouble("without letters", with().meanWeight(), 0.0);
        CHECKS.sameDouble("without letters", with().oneShare(0), 0.0);
    }

    private static void undoing() {
        CHECKS.begin("35 undo");
        LetterShelves x = with(1, 2, 3, 4, 5, 6, 7, 8, 9, 10);
        CHECKS.same("changes", x.account(10), 8);
        for (int left = 7; left >= 0; left--) {
            CHECKS.same("undo", x.undo(), left);
            CHECKS.same("letters", x.account(0), left + 2);
            CHECKS.same("came", x.account(2), left + 2);
        }
        CHECKS.same("undo", x.undo(), NOTHING);
        CHECKS.sameText("tell", told(x), "12");
        x.insert(0, 9);
        x.take(2);
        x.swap(0);
        x.mark(1, true);
        run(x, "put 4;clear 1;swap 1");
        CHECKS.sameText("tell", told(x), "149");
        write(x, "abc");
        CHECKS.same("undo run", x.undo(), 4);
        CHECKS.same("text", x.account(9), 3);
        CHECKS.same("line", x.character(2), '9');
        CHECKS.same("swaps", x.account(7), 1);
        CHECKS.sameText("tell", told(x), "1|9");
        CHECKS.same("undo mark", x.undo(), 3);
        CHECKS.sameText("tell", told(x), "19");
        CHECKS.same("undo swap", x.undo(), 2);
        CHECKS.same("swaps", x.account(7), 0);
        CHECKS.same("undo take", x.undo(), 1);
        CHECKS.same("taken", x.account(3), 0);
        CHECKS.sameText("tell", told(x), "912");
        CHECKS.same("undo insert", x.undo(), 0);
        CHECKS.sameText("tell", told(x), "12");
        x.put(40);
        x.take(7);
        x.swap(5);
        x.mark(0, true);
        x.mark(3, false);
        x.run();
        CHECKS.same("codes are no changes", x.account(10), 0);
    }

    private static void snapshots() {
        CHECKS.begin("36 save, 37 restore");
        LetterShelves x = with(1, 2);
        x.mark(1, true);
        x.swap(0);
        CHECKS.same("save", x.save(), 2);
        CHECKS.same("changes stay", x.account(10), 4);
        x.put(3);
        x.take(0);
        x.mark(1, false);
        x.swap(0);
        write(x, "put 7");
        x.tell();
        CHECKS.same("restore", x.restore(), 2);
        int[] due = {2, 3, 2, 0, 2, 1, 2, 1, 2, 5, 0};
        for (int what = 0; what <= 10; what++) {
            CHECKS.same("account(" + what + ")", x.account(what), due[what]);
        }
        CHECKS.same("undo", x.undo(), NOTHING);
        CHECKS.same("the line stays", x.character(0), '3');
        CHECKS.sameText("tell", told(x), "2|1");
        CHECKS.same("the text stays", x.run(), 1);
        CHECKS.same("put", x.put(8), 3);
        CHECKS.same("undo", x.undo(), 1);
        CHECKS.same("undo", x.undo(), 0);
        CHECKS.same("take", x.take(0), 2);
        CHECKS.same("save", x.save(), 1);
        CHECKS.same("undo", x.undo(), 0);
        CHECKS.same("restore the later one", x.restore(), 1);
        CHECKS.sameText("tell", told(x), "1");
        CHECKS.same("it stays", x.restore(), 1);
        CHECKS.same("without letters", with().save(), 0);
        LetterShelves y = with(1);
        CHECKS.same("no snapshot", y.restore(), NOTHING);
        CHECKS.same("changes stay", y.account(10), 1);
    }
}
