import java.util.function.Supplier;

/** "Codes": a call that returns a code leaves everything unchanged, but for the text of run and for the reasons. */
final class CodesEdgesTest extends Trial {
    private interface Call {
        long on(LetterShelves x);
    }

    private static final String SIXTY = "put 1;put 2;put 3;put 4;put 5;put 6;put 7;put 8;put 9;put 10";

    private CodesEdgesTest() {
    }

    public static void main(String[] args) {
        codesOfNewShelves();
        codesOfSomeLetters();
        codesOfFullShelves();
        refusals();
        textsThatAreWrong();
        ordersThatFail();
        readsThatAnswer();
        CHECKS.end();
    }

    /** Shelves with all that can be there: letters, marks, a text, a line, a reason, changes and a snapshot. */
    private static LetterShelves some() {
        LetterShelves x = withoutText();
        write(x, "put 7;in 0 30");
        return x;
    }

    private static LetterShelves withoutText() {
        LetterShelves x = marked(with(4, 4, 9, 31, 0), 1, 3, 40);
        x.swap(1);
        x.save();
        x.take(4);
        x.tell();
        x.swap(63);
        x.mark(40, true);
        x.insert(0, 17);
        x.put(2);
        x.mark(3, false);
        x.undo();
        return x;
    }

    /** Shelves without room for letters and for characters. */
    private static LetterShelves filled() {
        LetterShelves x = marked(alike(60, 3), 7, 8, 63);
        x.tellRow(4);
        x.save();
        for (int weight = 27; weight < 31; weight++) {
            x.put(weight);
        }
        x.mark(9, false);
        write(x, SIXTY);
        return x;
    }

    private static LetterShelves after(Supplier<LetterShelves> made, Call call) {
        LetterShelves x = made.get();
        call.on(x);
        return x;
    }

    private static void leaves(String name, Supplier<LetterShelves> made, long due, Call call) {
        CHECKS.same(name, call.on(made.get()), due);
        CHECKS.sameText(name + " leaves", Portrait.of(() -> after(made, call)), Portrait.of(made));
    }

    private static void leavesButReasons(String name, Supplier<LetterShelves> made, int reason, int detail, Call call) {
        CHECKS.same(name, call.on(made.get()), REFUSED);
        CHECKS.sameText(name + " leaves", Portrait.withoutReasons(() -> after(made, call)),
                Portrait.withoutReasons(made));
        reasonIs(after(made, call), reason, detail);
    }

    private static void codesOfNewShelves() {
        CHECKS.begin("Codes of new shelves");
        Supplier<LetterShelves> made = LetterShelves::new;
        codesOfAnyShelves(made);
        leaves("reason(false)", made, NOTHING, x -> x.reason(false));
        leaves("reason(true)", made, NOTHING, x -> x.reason(true));
        leaves("undo()", made, NOTHING, x -> x.undo());
        leaves("restore()", made, NOTHING, x -> x.restore());
        leaves("bagOf(0, 0)", made, NONE, x -> x.bagOf(0, 0));
        leaves("ranked(0)", made, NONE, x -> x.ranked(0));
        leaves("run()", made, -1000, x -> x.run());
    }

    private static void codesOfSomeLetters() {
        CHECKS.begin("Codes of some letters");
        codesOfAnyShelves(CodesEdgesTest::some);
        leaves("bagOf(0, 6)", CodesEdgesTest::some, BAD, x -> x.bagOf(0, 6));
        leaves("bagOf(0, -1)", CodesEdgesTest::some, BAD, x -> x.bagOf(0, -1));
        Supplier<LetterShelves> unsaved = () -> marked(with(4, 5), 1);
        leaves("restore()", unsaved, NOTHING, x -> x.restore());
        Supplier<LetterShelves> restored = () -> after(CodesEdgesTest::some, x -> x.restore());
        leaves("undo()", restored, NOTHING, x -> x.undo());
    }

    private static void codesOfFullShelves() {
        CHECKS.begin("Codes of full shelves");
        codesOfAnyShelves(CodesEdgesTest::filled);
        leaves("append(97)", CodesEdgesTest::filled, FULL, x -> x.append(97));
    }

    private static void codesOfAnyShelves(Supplier<LetterShelves> made) {
        int size = made.get().account(0);
        codesOfChanges(made, size);
        codesOfRows(made, size);
        codesOfParts(made, size);
        codesOfTheRest(made, size);
    }

    private static void codesOfChanges(Supplier<LetterShelves> made, int size) {
        for (int wrong : new int[] {-1, 32}) {
            leaves("put(" + wrong + ")", made, BAD, x -> x.put(wrong));
            leaves("insert(0, " + wrong + ")", made, BAD, x -> x.insert(0, wrong));
            leaves("insert(size, " + wrong + ")", made, BAD, x -> x.insert(size, wrong));
        }
        for (int wrong : new int[] {-1, size + 1}) {
            leaves("insert(" + wrong + ", 0)", made, NONE, x -> x.insert(wrong, 0));
            leaves("insert(" + wrong + ", 32)", made, NONE, x -> x.insert(wrong, 32));
        }
        for (int wrong : new int[] {-1, size, MIN, MAX}) {
            leaves("take(" + wrong + ")", made, NONE, x -> x.take(wrong));
            leaves("swap(" + wrong + ")", made, NONE, x -> x.swap(wrong));
        }
        leaves("swap(the last one)", made, NONE, x -> x.swap(size - 1));
        for (int wrong : new int[] {0, 64, -1}) {
            leaves("mark(" + wrong + ", true)", made, NONE, x -> x.mark(wrong, true));
            leaves("mark(" + wrong + ", false)", made, NONE, x -> x.mark(wrong, false));
        }
    }

    private static void codesOfRows(Supplier<LetterShelves> made, int size) {
        for (int wrong : new int[] {-1, 5}) {
            leaves("bit in " + wrong, made, NONE, x -> x.bit(wrong, 0));
            leaves("bits in " + wrong, made, 0, x -> x.bits(wrong));
            leaves("rank in " + wrong, made, NONE, x -> x.rank(wrong, true, 0));
            leaves("rankAgain in " + wrong, made, NONE, x -> x.rankAgain(wrong, true, 0));
            leaves("select in " + wrong, made, NONE, x -> x.select(wrong, true, 0));
            leaves("placeIn " + wrong, made, NONE, x -> x.placeIn(wrong, 0));
            leaves("tellRow(" + wrong + ")", made, NONE, x -> x.tellRow(wrong));
        }
        for (int wrong : new int[] {-1, size + 1}) {
            leaves("rank at " + wrong, made, NONE, x -> x.rank(0, true, wrong));
            leaves("rankAgain at " + wrong, made, NONE, x -> x.rankAgain(4, false, wrong));
        }
        for (int wrong : new int[] {-1, size}) {
            leaves("weight(" + wrong + ")", made, NONE, x -> x.weight(wrong));
            leaves("weightAgain(" + wrong + ")", made, NONE, x -> x.weightAgain(wrong));
            leaves("bit at " + wrong, made, NONE, x -> x.bit(0, wrong));
            leaves("placeIn of " + wrong, made, NONE, x -> x.placeIn(0, wrong));
            leaves("bagAt(" + wrong + ")", made, NONE, x -> x.bagAt(wrong));
        }
        for (int wrong : new int[] {-1, 64}) {
            leaves("select by " + wrong, made, NOTHING, x -> x.select(0, true, wrong));
            leaves("find by " + wrong, made, NOTHING, x -> x.find(4, wrong));
            leaves("ranked(" + wrong + ")", made, NONE, x -> x.ranked(wrong));
            leaves("bagOf(" + wrong + ", 0)", made, NONE, x -> x.bagOf(wrong, 0));
        }
    }

    private static void codesOfParts(Supplier<LetterShelves> made, int size) {
        for (int wrong : new int[] {-1, size}) {
            leaves("quantile at " + wrong, made, NONE, x -> x.quantile(0, size, wrong));
            leaves("quantileAgain at " + wrong, made, NONE, x -> x.quantileAgain(0, size, wrong));
        }
        leaves("quantile of no part", made, NONE, x -> x.quantile(0, size + 1, 0));
        leaves("quantileAgain of no part", made, NONE, x -> x.quantileAgain(-1, size, 0));
        leaves("count of no part", made, NONE, x -> x.count(1, 0, 0));
        leaves("lighter of no part", made, NONE, x -> x.lighter(0, size + 1, 0));
        leaves("atLeast of no part", made, NONE, x -> x.atLeast(-1, 0, 0));
        leaves("common of no part", made, NONE, x -> x.common(0, size + 1, 0));
        leaves("common at -1", made, NONE, x -> x.common(0, size, -1));
        leaves("common at 32", made, NONE, x -> x.common(0, size, 32));
        leaves("atLeast of none", made, NOTHING, x -> x.atLeast(0, 0, 0));
        for (int wrong : new int[] {-1, 32}) {
            leaves("count of " + wrong, made, BAD, x -> x.count(0, size, wrong));
            leaves("lighter than " + wrong, made, BAD, x -> x.lighter(0, size, wrong));
            leaves("atLeast " + wrong, made, BAD, x -> x.atLeast(0, size, wrong));
            leaves("find(" + wrong + ", 0)", made, BAD, x -> x.find(wrong, 0));
        }
    }

    private static void codesOfTheRest(Supplier<LetterShelves> made, int size) {
        for (int wrong : new int[] {31, 127}) {
            leaves("append(" + wrong + ")", made, BAD, x -> x.append(wrong));
        }
        for (int wrong : new int[] {-1, 129}) {
            leaves("character(" + wrong + ")", made, NONE, x -> x.character(wrong));
        }
        for (int wrong : new int[] {-1, 11}) {
            leaves("account(" + wrong + ")", made, BAD, x -> x.account(wrong));
        }
        CHECKS.sameDouble("oneShare(5)", made.get().oneShare(5), 0.0f);
        leaves("oneShare(5)", made, 0, x -> (long) x.oneShare(5));
        if (size == 0) {
            leaves("meanWeight()", made, 0, x -> (long) x.meanWeight());
        }
    }

    private static void refusals() {
        CHECKS.begin("Codes: refusals leave everything unchanged, except that reasons are kept");
        leavesButReasons("put(0)", CodesEdgesTest::filled, 1, 64, x -> x.put(0));
        leavesButReasons("put(31)", CodesEdgesTest::filled, 1, 64, x -> x.put(31));
        leavesButReasons("insert(0, 0)", CodesEdgesTest::filled, 1, 64, x -> x.insert(0, 0));
        leavesButReasons("insert(64, 31)", CodesEdgesTest::filled, 1, 64, x -> x.insert(64, 31));
        leavesButReasons("swap(0)", CodesEdgesTest::filled, 2, 3, x -> x.swap(0));
        leavesButReasons("mark(63, true)", CodesEdgesTest::filled, 3, 63, x -> x.mark(63, true));
        leavesButReasons("mark(1, false)", CodesEdgesTest::filled, 3, 1, x -> x.mark(1, false));
        leavesButReasons("mark(40, true)", CodesEdgesTest::some, 3, 40, x -> x.mark(40, true));
        leavesButReasons("mark(63, false)", CodesEdgesTest::some, 3, 63, x -> x.mark(63, false));
        Supplier<LetterShelves> alike = () -> after(CodesEdgesTest::some, x -> x.insert(0, 17));
        leavesButReasons("swap(0)", alike, 2, 17, x -> x.swap(0));
    }

    private static void textsThatAreWrong() {
        CHECKS.begin("Codes: a wrong text leaves everything unchanged, except that run empties the text");
        String[] texts = {"", "put", "put 7;", "put 7;in 0 3x", "out 0;out 0;out 0;", "mark 2;clear",
            SIXTY.substring(0, 59) + "x"};
        int[] due = {-1000, -1003, -1006, -1012, -1018, -1012, -1059};
        for (int index = 0; index < texts.length; index++) {
            String text = texts[index];
            leaves("run of \"" + text + "\"", CodesEdgesTest::withoutText, due[index], x -> run(x, text));
        }
    }

    private static void ordersThatFail() {
        CHECKS.begin("Codes: orders of which one fails leave everything unchanged, but for text and reasons");
        String[] texts = {"put 32", "put 7;in 0 3;out 63", "out 0;out 0;out 0;out 0;out 0;out 0;out 0",
            "mark 2;clear 2;clear 2", "swap 0;swap 0;swap 63", "clear 1;clear 40;mark 63;mark 64"};
        int[] due = {0, 2, 6, 2, 2, 3};
        for (int index = 0; index < texts.length; index++) {
            String text = texts[index];
            leavesButReasons("run of \"" + text + "\"", CodesEdgesTest::withoutText, 4, due[index], x -> run(x, text));
        }
    }

    private static void readsThatAnswer() {
        CHECKS.begin("Changes: calls that are no changes leave everything unchanged");
        for (int place = 0; place < 5; place++) {
            int at = place;
            leaves("weight", CodesEdgesTest::filled, 3, x -> x.weight(at));
            leaves("weightAgain", CodesEdgesTest::filled, 3, x -> x.weightAgain(at));
            leaves("bit", CodesEdgesTest::filled, 0, x -> x.bit(0, at));
            leaves("rank", CodesEdgesTest::filled, at, x -> x.rank(0, false, at));
            leaves("rankAgain", CodesEdgesTest::filled, at, x -> x.rankAgain(0, false, at));
            leaves("select", CodesEdgesTest::filled, at, x -> x.select(0, false, at));
            leaves("placeIn", CodesEdgesTest::filled, at + 2, x -> x.placeIn(4, at));
            leaves("quantile", CodesEdgesTest::filled, 3, x -> x.quantile(0, 64, at));
            leaves("quantileAgain", CodesEdgesTest::filled, 3, x -> x.quantileAgain(0, 64, at));
            leaves("find", CodesEdgesTest::filled, at, x -> x.find(3, at));
            leaves("common", CodesEdgesTest::filled, at == 0 ? 3 : 26 + at, x -> x.common(0, 64, at));
        }
        leaves("count", CodesEdgesTest::filled, 60, x -> x.count(0, 64, 3));
        leaves("lighter", CodesEdgesTest::filled, 63, x -> x.lighter(0, 64, 30));
        leaves("atLeast", CodesEdgesTest::filled, 27, x -> x.atLeast(0, 64, 4));
        leaves("bagOf", CodesEdgesTest::filled, 21, x -> x.bagOf(0, 2));
        leaves("bagAt", CodesEdgesTest::filled, 3, x -> x.bagAt(63));
        leaves("ranked", CodesEdgesTest::filled, 2, x -> x.ranked(0));
        leaves("reason", CodesEdgesTest::filled, 9, x -> x.reason(true));
        leaves("account", CodesEdgesTest::filled, 60, x -> x.account(9));
        leaves("isBalanced", CodesEdgesTest::filled, 1, x -> x.isBalanced());
        leaves("meanWeight", CodesEdgesTest::filled, 4, x -> (long) x.meanWeight());
        leaves("oneShare", CodesEdgesTest::filled, 0, x -> (long) x.oneShare(0));
        leaves("character", CodesEdgesTest::filled, ' ', x -> x.character(8));
    }
}
