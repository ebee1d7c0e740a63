/** The examples that the document tells. */
final class ExamplesTest {
    private static final Checks CHECKS = new Checks();

    private ExamplesTest() {
    }

    public static void main(String[] args) {
        first();
        second();
        third();
        fourth();
        CHECKS.end();
    }

    private static void first() {
        CHECKS.begin("example 1");
        LetterShelves x = new LetterShelves();
        CHECKS.same("put(20)", x.put(20), 0);
        CHECKS.same("put(3)", x.put(3), 1);
        CHECKS.same("put(17)", x.put(17), 2);
        CHECKS.same("put(3)", x.put(3), 3);
        CHECKS.same("bit(0, 1)", x.bit(0, 1), 0);
        CHECKS.same("rank(0, true, 3)", x.rank(0, true, 3), 2);
        CHECKS.same("placeIn(1, 0)", x.placeIn(1, 0), 2);
        CHECKS.same("weightAgain(2)", x.weightAgain(2), 17);
        CHECKS.same("quantile(0, 4, 1)", x.quantile(0, 4, 1), 3);
        CHECKS.same("quantileAgain(1, 3, 1)", x.quantileAgain(1, 3, 1), 17);
        CHECKS.same("count(0, 4, 3)", x.count(0, 4, 3), 2);
        CHECKS.same("lighter(0, 4, 17)", x.lighter(0, 4, 17), 2);
        CHECKS.same("atLeast(0, 4, 18)", x.atLeast(0, 4, 18), 20);
        CHECKS.same("find(3, 1)", x.find(3, 1), 3);
        CHECKS.same("bits(0)", x.bits(0), 5);
        CHECKS.same("tellRow(0)", x.tellRow(0), 4);
    }

    private static void second() {
        CHECKS.begin("example 2");
        LetterShelves x = new LetterShelves();
        CHECKS.same("put(5)", x.put(5), 0);
        CHECKS.same("put(9)", x.put(9), 1);
        CHECKS.same("put(7)", x.put(7), 2);
        CHECKS.same("mark(1, true)", x.mark(1, true), 1);
        CHECKS.same("mark(1, true)", x.mark(1, true), -14);
        CHECKS.same("reason(true)", x.reason(true), 1);
        CHECKS.same("bagOf(1, 2)", x.bagOf(1, 2), 16);
        CHECKS.same("bagOf(1, 3)", x.bagOf(1, 3), 7);
        CHECKS.same("bagAt(2)", x.bagAt(2), 1);
        CHECKS.same("ranked(0)", x.ranked(0), 1);
        CHECKS.same("tell()", x.tell(), 4);
        CHECKS.same("character(1)", x.character(1), 124);
        CHECKS.same("take(0)", x.take(0), 5);
        CHECKS.same("account(4)", x.account(4), 2);
    }

    private static void third() {
        CHECKS.begin("example 3");
        LetterShelves x = new LetterShelves();
        CHECKS.same("insert(0, 31)", x.insert(0, 31), 1);
        CHECKS.same("insert(0, 31)", x.insert(0, 31), 2);
        CHECKS.same("swap(0)", x.swap(0), -14);
        CHECKS.same("reason(true)", x.reason(true), 31);
        CHECKS.same("swap(1)", x.swap(1), -11);
        CHECKS.same("insert(3, 0)", x.insert(3, 0), -11);
        CHECKS.same("common(0, 2, 0)", x.common(0, 2, 0), 31);
        CHECKS.same("common(0, 0, 0)", x.common(0, 0, 0), -11);
        CHECKS.sameDouble("oneShare(4)", x.oneShare(4), 1.0);
        CHECKS.sameDouble("meanWeight()", x.meanWeight(), 31.0);
    }

    private static void fourth() {
        CHECKS.begin("example 4");
        LetterShelves x = new LetterShelves();
        CHECKS.same("bagOf(0, 0)", x.bagOf(0, 0), -11);
        CHECKS.same("mark(63, true)", x.mark(63, true), 1);
        CHECKS.same("account(5)", x.account(5), 1);
        CHECKS.same("append o", x.append(111), 1);
        CHECKS.same("append u", x.append(117), 2);
        CHECKS.same("append t", x.append(116), 3);
        CHECKS.same("append blank", x.append(32), 4);
        CHECKS.same("append 0", x.append(48), 5);
        CHECKS.same("run()", x.run(), -14);
        CHECKS.same("append i", x.append(105), 1);
        CHECKS.same("append x", x.append(120), 2);
        CHECKS.same("run()", x.run(), -1001);
        CHECKS.same("select(0, true, 0)", x.select(0, true, 0), -15);
    }
}
