/** The edges that the document names of texts and lines: promises 25 to 29, "Texts" and "In doubt" of them. */
final class TextsEdgesTest extends Trial {
    private static final String TEN_ORDERS = "put 1;put 2;put 3;put 4;put 5;put 6;put 7;put 8;put 9;put 10";
    private static final String[] TEXTS = {"put 5", "put 31", "in 0 7", "in 10 7", "in 0 31", "in 10 31", "out 0",
        "out 10", "swap 0", "swap 10", "mark 5", "mark 63", "clear 5", "clear 63", "put 1;in 0 2;out 1",
        "mark 1;swap 00;clear 1;put 09"};

    private TextsEdgesTest() {
    }

    public static void main(String[] args) {
        appendCodes();
        appendRoom();
        appendBadFirst();
        runWithoutText();
        runEmpties();
        runSixtyCharacters();
        runTooEarly();
        runWrongCharacters();
        runDigits();
        runFaultBeforeRefusal();
        runReturns();
        putOrders();
        inOrders();
        outOrders();
        swapOrders();
        markOrders();
        clearOrders();
        ordersInTurn();
        orderNumbers();
        allOrNone();
        tellLetters();
        tellBags();
        tellInPlaceOfTheLine();
        tellRowRows();
        tellRowBlocks();
        characterIndices();
        characterOfNoLine();
        CHECKS.end();
    }

    private static void appendCodes() {
        CHECKS.begin("Promise 25: the code of the character, 32 to 126; BAD if it is out of range");
        LetterShelves x = new LetterShelves();
        for (int wrong : new int[] {31, 127, 0, -1, 128, 256, 256 + 65, 65536 + 65, MIN, MIN + 65, MAX}) {
            CHECKS.same("append(" + wrong + ")", x.append(wrong), BAD);
        }
        CHECKS.same("length", x.account(9), 0);
        CHECKS.same("append(32)", x.append(32), 1);
        CHECKS.same("append(126)", x.append(126), 2);
        CHECKS.same("append(31)", x.append(31), BAD);
        CHECKS.same("append(127)", x.append(127), BAD);
        CHECKS.same("length", x.account(9), 2);
        for (int code = 32; code <= 126; code++) {
            CHECKS.same("append(" + code + ")", with().append(code), 1);
        }
    }

    private static void appendRoom() {
        CHECKS.begin("Promise 25: FULL if the text has 60 characters");
        LetterShelves x = new LetterShelves();
        for (int size = 1; size <= 60; size++) {
            CHECKS.same("append", x.append(97), size);
        }
        CHECKS.same("the character 61", x.append(97), FULL);
        CHECKS.same("length", x.account(9), 60);
        x.run();
        CHECKS.same("after run", x.append(97), 1);
        noReason(x);
    }

    private static void appendBadFirst() {
        CHECKS.begin("Promise 25: BAD is listed ahead of FULL");
        LetterShelves x = new LetterShelves();
        write(x, TEN_ORDERS);
        for (int wrong : new int[] {31, 127, MIN, MAX}) {
            CHECKS.same("append(" + wrong + ")", x.append(wrong), BAD);
        }
        CHECKS.same("append(32)", x.append(32), FULL);
        CHECKS.same("the text is as it was", x.run(), 10);
    }

    private static void runWithoutText() {
        CHECKS.begin("Texts: one or more orders; an empty text ends too early");
        LetterShelves x = with(5);
        CHECKS.same("run", x.run(), -1000);
        CHECKS.same("run again", x.run(), -1000);
        CHECKS.same("changes", x.account(10), 1);
        noReason(x);
    }

    private static void runEmpties() {
        CHECKS.begin("Codes: run empties the text");
        LetterShelves x = new LetterShelves();
        CHECKS.same("carried out", run(x, "put 5"), 1);
        CHECKS.same("length", x.account(9), 0);
        CHECKS.same("wrong", run(x, "put x"), -1004);
        CHECKS.same("length", x.account(9), 0);
        CHECKS.same("refused", run(x, "out 7"), REFUSED);
        CHECKS.same("length", x.account(9), 0);
        CHECKS.same("empty", x.run(), -1000);
        CHECKS.same("the next one stands alone", run(x, "put 6"), 1);
        CHECKS.sameText("tell", told(x), "56");
    }

    private static void runSixtyCharacters() {
        CHECKS.begin("Texts: a text of 60 characters");
        LetterShelves x = new LetterShelves();
        CHECKS.same("ten orders", run(x, TEN_ORDERS), 10);
        CHECKS.sameText("tell", told(x), "123456789a");
        String nine = TEN_ORDERS.substring(0, 54);
        CHECKS.same("it ends too early", run(x, nine + "put 1;"), -1060);
        CHECKS.same("it is wrong at its last character", run(x, nine + "put 1x"), -1059);
        CHECKS.same("it is wrong at its first character", run(x, " ".repeat(60)), -1000);
        CHECKS.same("it ends within an order", run(x, nine + "clear "), -1060);
        CHECKS.same("59 characters", run(x, nine + "put 1"), 10);
    }

    /** What the model answers, which is made from the document's words and shares no code with the class. */
    private static int plainRun(String text) {
        PlainShelves plain = new PlainShelves();
        for (int index = 0; index < text.length(); index++) {
            plain.append(text.charAt(index));
        }
        return plain.run();
    }

    private static void runTooEarly() {
        CHECKS.begin("Texts: the fault position is its length if it ends too early");
        for (String text : TEXTS) {
            for (int length = 0; length < text.length(); length++) {
                String begun = text.substring(0, length);
                boolean isWhole = begun.matches(".*\\d") && !begun.matches("(.*;)?in \\d+");
                CHECKS.same("run of \"" + begun + "\"", run(with(), begun) <= -1000 ? 1 : 0, isWhole ? 0 : 1);
                if (!isWhole) {
                    CHECKS.same("run of \"" + begun + "\"", run(with(), begun), -1000 - length);
                }
            }
        }
        for (String text : TEXTS) {
            CHECKS.same("run of \"" + text + ";\"", run(with(), text + ";"), -1001 - text.length());
        }
    }

    private static void runWrongCharacters() {
        CHECKS.begin("Texts: the index of its first character with which no such text can continue");
        for (String text : TEXTS) {
            for (int length = 0; length <= text.length(); length++) {
                String begun = text.substring(0, length);
                CHECKS.same("run of \"" + begun + "#\"", run(with(), begun + "#"), -1000 - length);
                CHECKS.same("run of \"" + begun + "#;#\"", run(with(), begun + "#;#"), -1000 - length);
                for (int code = 32; code <= 126; code++) {
                    String other = begun + (char) code;
                    CHECKS.same("run of \"" + other + "\"", run(with(), other), plainRun(other));
                }
            }
        }
    }

    private static void runDigits() {
        CHECKS.begin("Texts: all numbers have one or two digits");
        String[] texts = {"put 000", "put 001", "in 000 1", "in 0 001", "out 000", "swap 100", "mark 001", "clear 001",
            "put a", "put -1", "put +1", "put  1", "in 1  1", "put /", "put :", "put 1/", "put 1:", "in / 1", "in 1/1"};
        int[] due = {6, 6, 5, 7, 6, 7, 7, 8, 4, 4, 4, 4, 5, 4, 4, 5, 5, 3, 4};
        for (int index = 0; index < texts.length; index++) {
            CHECKS.same("run of \"" + texts[index] + "\"", run(with(1, 2), texts[index]), -1000 - due[index]);
        }
        LetterShelves x = new LetterShelves();
        CHECKS.same("one or two", run(x, "put 0;put 00;put 9;put 09;put 10;in 00 1;in 0 01"), 7);
        CHECKS.sameText("tell", told(x), "110099a");
        CHECKS.same("one or two", run(x, "mark 1;clear 01;mark 01;out 00;out 0;swap 01"), 6);
        CHECKS.sameText("tell", told(x), "0|909a");
    }

    private static void runFaultBeforeRefusal() {
        CHECKS.begin("Promise 26: the fault is listed ahead of REFUSED");
        LetterShelves x = with(5);
        CHECKS.same("an order that fails, and a fault", run(x, "out 9;put x"), -1010);
        CHECKS.same("an order that fails, and an early end", run(x, "put 32;"), -1007);
        noReason(x);
        CHECKS.same("letters", x.account(0), 1);
    }

    private static void runReturns() {
        CHECKS.begin("Promise 26: returns how many orders");
        for (int orders = 1; orders <= 10; orders++) {
            LetterShelves x = new LetterShelves();
            CHECKS.same("run", run(x, TEN_ORDERS.substring(0, orders < 10 ? orders * 6 - 1 : 60)), orders);
            CHECKS.same("letters", x.account(0), orders);
            CHECKS.same("changes", x.account(10), 1);
        }
    }

    /** Checks that an order is carried out at shelves, and what stands there then. */
    private static void doesOrder(LetterShelves x, String order, String due) {
        CHECKS.same("run of \"" + order + "\"", run(x, order), 1);
        CHECKS.sameText("after \"" + order + "\"", told(x), due);
    }

    /** Checks that an order can not be carried out, and that it changes nothing. */
    private static void refusesOrder(LetterShelves x, String order) {
        String before = told(x);
        int marked = x.account(5);
        CHECKS.same("run of \"" + order + "\"", run(x, order), REFUSED);
        reasonIs(x, 4, 0);
        CHECKS.sameText("after \"" + order + "\"", told(x), before);
        CHECKS.same("marked", x.account(5), marked);
    }

    private static void putOrders() {
        CHECKS.begin("Texts: \"put \" and a weight, which comes to the end");
        doesOrder(with(), "put 0", "0");
        doesOrder(with(5), "put 31", "5v");
        refusesOrder(with(5), "put 32");
        refusesOrder(with(5), "put 99");
        CHECKS.same("the last room", run(mixed(63), "put 1"), 1);
        refusesOrder(full(), "put 1");
        refusesOrder(full(), "put 32");
    }

    private static void inOrders() {
        CHECKS.begin("Texts: \"in \", a place, a blank, and a weight");
        doesOrder(with(), "in 0 31", "v");
        doesOrder(with(5), "in 0 0", "05");
        doesOrder(with(5), "in 1 0", "50");
        doesOrder(with(5, 6), "in 1 10", "5a6");
        refusesOrder(with(), "in 1 0");
        refusesOrder(with(5), "in 2 0");
        refusesOrder(with(5), "in 99 0");
        refusesOrder(with(5), "in 0 32");
        refusesOrder(with(5), "in 1 99");
        CHECKS.same("the last room", run(mixed(63), "in 63 1"), 1);
        refusesOrder(mixed(63), "in 64 1");
        refusesOrder(full(), "in 0 1");
        refusesOrder(full(), "in 64 1");
    }

    private static void outOrders() {
        CHECKS.begin("Texts: \"out \" and a place");
        doesOrder(with(5), "out 0", "");
        doesOrder(with(5, 6, 7), "out 0", "67");
        doesOrder(with(5, 6, 7), "out 2", "56");
        refusesOrder(with(), "out 0");
        refusesOrder(with(5, 6, 7), "out 3");
        refusesOrder(with(5, 6, 7), "out 99");
        CHECKS.same("the last one of 64", run(full(), "out 63"), 1);
        refusesOrder(full(), "out 64");
    }

    private static void swapOrders() {
        CHECKS.begin("Texts: \"swap \" and a place");
        doesOrder(with(5, 6, 7), "swap 0", "657");
        doesOrder(with(5, 6, 7), "swap 1", "576");
        refusesOrder(with(), "swap 0");
        refusesOrder(with(5), "swap 0");
        refusesOrder(with(5, 6, 7), "swap 2");
        refusesOrder(with(5, 6, 7), "swap 99");
        refusesOrder(with(5, 5), "swap 0");
        CHECKS.same("the last two of 64", run(full(), "swap 62"), 1);
        refusesOrder(full(), "swap 63");
    }

    private static void markOrders() {
        CHECKS.begin("Texts: \"mark \" and a place; In doubt: places that can not be marked are no such places");
        doesOrder(with(5, 6, 7), "mark 1", "5|67");
        doesOrder(with(5, 6, 7), "mark 2", "56|7");
        doesOrder(with(5, 6, 7), "mark 3", "567");
        LetterShelves x = full();
        CHECKS.same("mark 63", run(x, "mark 63"), 1);
        CHECKS.same("its bag", x.bagOf(1, 0), 63);
        refusesOrder(with(5, 6, 7), "mark 0");
        refusesOrder(with(5, 6, 7), "mark 64");
        refusesOrder(with(5, 6, 7), "mark 65");
        refusesOrder(with(5, 6, 7), "mark 99");
        refusesOrder(marked(with(5, 6, 7), 1), "mark 1");
        refusesOrder(x, "mark 63");
        refusesOrder(x, "mark 64");
    }

    private static void clearOrders() {
        CHECKS.begin("Texts: \"clear \" and a place, whose mark is taken away");
        doesOrder(marked(with(5, 6, 7), 1, 2), "clear 1", "56|7");
        doesOrder(marked(with(5, 6, 7), 1, 2), "clear 2", "5|67");
        LetterShelves x = marked(full(), 63);
        CHECKS.same("clear 63", run(x, "clear 63"), 1);
        CHECKS.same("marked", x.account(5), 0);
        refusesOrder(x, "clear 63");
        refusesOrder(marked(with(5, 6, 7), 1), "clear 2");
        for (String order : new String[] {"clear 0", "clear 64", "clear 65", "clear 99"}) {
            refusesOrder(marked(with(5, 6, 7), 1), order);
        }
    }

    private static void ordersInTurn() {
        CHECKS.begin("Texts: the orders are carried out one after the other");
        LetterShelves x = new LetterShelves();
        CHECKS.same("each on what the one before it left", run(x, "put 1;in 1 2;swap 0;mark 1;out 0;put 3;clear 1"), 7);
        CHECKS.sameText("tell", told(x), "13");
        CHECKS.same("swaps", x.account(7), 1);
        CHECKS.same("came", x.account(2), 3);
        CHECKS.same("taken", x.account(3), 1);
        LetterShelves y = full();
        CHECKS.same("room is made first", run(y, "out 0;put 1"), 2);
        CHECKS.same("room is made too late", run(y, "put 1;out 0"), REFUSED);
        reasonIs(y, 4, 0);
        CHECKS.same("room for one alone", run(y, "out 0;put 1;put 1"), REFUSED);
        reasonIs(y, 4, 2);
        LetterShelves z = mixed(63);
        CHECKS.same("the last room and no more", run(z, "put 1;put 1"), REFUSED);
        reasonIs(z, 4, 1);
        CHECKS.same("letters", z.account(0), 63);
    }

    private static void orderNumbers() {
        CHECKS.begin("Reasons: 4, an order cannot be carried out: its number, from 0");
        for (int failing = 0; failing < 10; failing++) {
            StringBuilder text = new StringBuilder();
            for (int order = 0; order < 10; order++) {
                text.append(order == 0 ? "" : ";").append(order == failing ? "out 9" : "put 1");
            }
            // there are nine letters at most, so none is at the place 9
            LetterShelves x = new LetterShelves();
            CHECKS.same("run", run(x, text.toString()), REFUSED);
            reasonIs(x, 4, failing);
            CHECKS.same("letters", x.account(0), 0);
        }
        LetterShelves x = new LetterShelves();
        CHECKS.same("the first one of several", run(x, "put 1;out 5;put 99;swap 7"), REFUSED);
        reasonIs(x, 4, 1);
    }

    private static void allOrNone() {
        CHECKS.begin("Texts: all or none");
        String[] orders = {"put 1", "in 0 1", "out 1", "swap 0", "mark 3", "clear 2"};
        for (String order : orders) {
            LetterShelves x = marked(with(5, 6, 7), 2);
            x.swap(0);
            CHECKS.same("run of \"" + order + "\" and one that fails", run(x, order + ";out 63"), REFUSED);
            reasonIs(x, 4, 1);
            int[] due = {3, 18, 3, 0, 2, 1, 3, 1, 7, 0, 5};
            for (int what = 0; what <= 10; what++) {
                CHECKS.same("account(" + what + ")", x.account(what), due[what]);
            }
            CHECKS.sameText("tell", told(x), "65|7");
            CHECKS.same("balanced", x.isBalanced(), 1);
        }
    }

    private static void tellLetters() {
        CHECKS.begin("Promise 27: each as a digit, or as a letter from \"a\" for 10 to \"v\" for 31");
        CHECKS.same("without letters", with().tell(), 0);
        CHECKS.same("one letter", with(0).tell(), 1);
        String digits = "0123456789abcdefghijklmnopqrstuv";
        for (int weight = 0; weight < 32; weight++) {
            CHECKS.sameText("a weight of " + weight, told(with(weight)), digits.substring(weight, weight + 1));
        }
        CHECKS.same("64 letters", full().tell(), 64);
        LetterShelves x = alike(64, 31);
        CHECKS.sameText("64 letters", told(x), "v".repeat(64));
    }

    private static void tellBags() {
        CHECKS.begin("Promise 27: with \"|\" ahead of each bag but the first one");
        CHECKS.sameText("as in the document", told(marked(with(3, 10, 0, 31), 2)), "3a|0v");
        CHECKS.sameText("one bag", told(with(3, 10)), "3a");
        CHECKS.sameText("a mark without letters", told(marked(with(3, 10), 2, 63)), "3a");
        CHECKS.sameText("at the last letter", told(marked(with(3, 10), 1)), "3|a");
        CHECKS.sameText("marks alone", told(marked(with(), 1, 2)), "");
        LetterShelves x = alike(64, 9);
        for (int place = 1; place <= 63; place++) {
            x.mark(place, true);
        }
        CHECKS.same("64 bags", x.tell(), 127);
        for (int index = 0; index < 127; index++) {
            CHECKS.same("character(" + index + ")", x.character(index), index % 2 == 0 ? '9' : '|');
        }
        CHECKS.same("character(127)", x.character(127), NONE);
    }

    private static void tellInPlaceOfTheLine() {
        CHECKS.begin("Promises 27, 28: in place of the line before");
        LetterShelves x = full();
        CHECKS.same("tellRow", x.tellRow(0), 71);
        CHECKS.same("tell", x.tell(), 64);
        CHECKS.same("character(63)", x.character(63), 'r');
        CHECKS.same("character(64)", x.character(64), NONE);
        CHECKS.same("tellRow again", x.tellRow(4), 71);
        CHECKS.same("character(70)", x.character(70), '1');
        LetterShelves y = with(5);
        y.tell();
        y.take(0);
        CHECKS.same("the line is as it was written", y.character(0), '5');
        CHECKS.same("an empty line", y.tell(), 0);
        CHECKS.same("character(0)", y.character(0), NONE);
        y.put(6);
        y.tell();
        y.take(0);
        CHECKS.same("an empty row", y.tellRow(3), 0);
        CHECKS.same("character(0)", y.character(0), NONE);
    }

    private static void tellRowRows() {
        CHECKS.begin("Promise 28: NONE if there is no such row");
        LetterShelves x = with(16, 15);
        CHECKS.sameText("the row 0", toldRow(x, 0), "10");
        CHECKS.sameText("the row 4", toldRow(x, 4), "01");
        for (int wrong : WRONG_ROWS) {
            CHECKS.same("tellRow(" + wrong + ")", x.tellRow(wrong), NONE);
            CHECKS.same("without letters", with().tellRow(wrong), NONE);
        }
        CHECKS.sameText("the line stays", line(x, 2), "01");
        CHECKS.same("it is no longer", x.character(2), NONE);
    }

    private static void tellRowBlocks() {
        CHECKS.begin("Promise 28: with a blank between two blocks");
        for (int letters = 0; letters <= 64; letters++) {
            LetterShelves x = alike(letters, 21);
            StringBuilder due = new StringBuilder();
            for (int place = 0; place < letters; place++) {
                due.append(place == 8 || place == 16 || place == 24 || place == 32 || place == 40 || place == 48
                        || place == 56 ? " " : "").append('1');
            }
            CHECKS.sameText("row 0 of " + letters, toldRow(x, 0), due.toString());
            CHECKS.sameText("row 1 of " + letters, toldRow(x, 1), due.toString().replace('1', '0'));
        }
    }

    private static void characterIndices() {
        CHECKS.begin("Promise 29: the index, from 0; NONE if there is none");
        LetterShelves x = with(1, 2, 3);
        x.tell();
        CHECKS.same("character(0)", x.character(0), '1');
        CHECKS.same("character(2)", x.character(2), '3');
        for (int wrong : new int[] {-1, 3, 4, 64, 127, 128, MIN, MAX}) {
            CHECKS.same("character(" + wrong + ")", x.character(wrong), NONE);
        }
        LetterShelves y = full();
        y.tellRow(0);
        CHECKS.same("character(70)", y.character(70), '1');
        CHECKS.same("character(71)", y.character(71), NONE);
    }

    private static void characterOfNoLine() {
        CHECKS.begin("Promise 29: the line, which is empty at first");
        LetterShelves x = full();
        write(x, "put 1");
        for (int wrong : new int[] {-1, 0, 1, 63, 64, MIN, MAX}) {
            CHECKS.same("character(" + wrong + ")", x.character(wrong), NONE);
        }
    }
}
