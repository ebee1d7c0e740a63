/** Long runs of calls, each answer compared with that of the plain shelves; wrong inputs among them. */
final class CompareTest {
    private static final int RUNS = 3000;
    // nothing is promised of an object after so many calls
    private static final int CALLS = 512;
    private static final int MOST_OF_TEXT = 62;
    private static final int MOST_OF_LINE = 130;
    private static final int[] EDGES = {-1, 0, 1, 7, 8, 9, 31, 32, 56, 62, 63, 64, 65, 99, Integer.MIN_VALUE,
        Integer.MIN_VALUE + 1, Integer.MAX_VALUE, Integer.MAX_VALUE - 1, -64, 1 << 16, 65536 + 65};
    private static final String[] WORDS = {"put ", "in ", "out ", "swap ", "mark ", "clear "};
    private static final Checks CHECKS = new Checks();

    private long seed;
    private int calls;
    private final LetterShelves x = new LetterShelves();
    private final PlainShelves plain = new PlainShelves();
    private final int weightsUsed;
    private final int growth;

    private CompareTest(int run) {
        seed = run * 7919L + 17;
        weightsUsed = run % 3 == 0 ? 3 : 32;
        growth = run % 4;
    }

    public static void main(String[] args) {
        for (int run = 0; run < RUNS && CHECKS.wrong() == 0; run++) {
            CHECKS.begin("run " + run);
            new CompareTest(run).compare();
        }
        CHECKS.end();
    }

    /** A row of numbers that is the same each time, so that a fault can be found again. */
    private int below(int bound) {
        seed = seed * 6364136223846793005L + 1442695040888963407L;
        return (int) ((seed >>> 33) % bound);
    }

    private int number(int bound) {
        return below(12) == 0 ? EDGES[below(EDGES.length)] : below(bound);
    }

    private int place() {
        return number(plain.account(0) + 1);
    }

    private int weight() {
        return number(weightsUsed);
    }

    private int row() {
        return number(5);
    }

    private void compare() {
        while (calls < CALLS) {
            int kind = below(20);
            int room = CALLS - calls;
            if (kind == 0 && below(3) == 0 && room > MOST_OF_TEXT) {
                text();
            } else if (kind == 1 && below(8) == 0 && room > MOST_OF_LINE) {
                line();
            } else if (kind < 4 + growth * 2) {
                come();
            } else if (kind < 13) {
                change();
            } else {
                look();
            }
        }
    }

    private void due(String call, long got, long due) {
        calls++;
        CHECKS.same(call, got, due);
    }

    private void come() {
        int weight = weight();
        int place = place();
        if (below(2) == 0) {
            due("put(" + weight + ")", x.put(weight), plain.put(weight));
        } else {
            due("insert(" + place + ", " + weight + ")", x.insert(place, weight), plain.insert(place, weight));
        }
    }

    private void change() {
        int place = place();
        boolean isMarked = below(3) > 0;
        switch (below(9)) {
            case 0:
            case 1:
                due("take(" + place + ")", x.take(place), plain.take(place));
                break;
            case 2:
            case 3:
                due("swap(" + place + ")", x.swap(place), plain.swap(place));
                break;
            case 4:
            case 5:
                due("mark(" + place + ", " + isMarked + ")", x.mark(place, isMarked), plain.mark(place, isMarked));
                break;
            case 6:
                due("undo()", x.undo(), plain.undo());
                break;
            case 7:
                due("save()", x.save(), plain.save());
                break;
            default:
                if (below(6) == 0) {
                    due("restore()", x.restore(), plain.restore());
                } else {
                    due("run()", x.run(), plain.run());
                }
                break;
        }
    }

    private void look() {
        switch (below(4)) {
            case 0:
                lookAtRows(row(), below(2) == 0, place());
                break;
            case 1:
                int from = below(plain.account(0) + 1);
                int to = from + below(plain.account(0) - from + 1);
                lookAtParts(below(12) == 0 ? number(9) : from, below(12) == 0 ? number(65) : to, place(), weight());
                break;
            case 2:
                lookAtBags(number(plain.account(4) + 1), place());
                break;
            default:
                lookAtRest(number(11), row(), place());
                break;
        }
    }

    private void lookAtRows(int row, boolean isOne, int place) {
        String at = "(" + row + ", " + isOne + ", " + place + ")";
        switch (below(8)) {
            case 0:
                due("weight(" + place + ")", x.weight(place), plain.weight(place));
                break;
            case 1:
                due("weightAgain(" + place + ")", x.weightAgain(place), plain.weight(place));
                break;
            case 2:
                due("bit of " + at, x.bit(row, place), plain.bit(row, place));
                break;
            case 3:
                due("bits of " + at, x.bits(row), plain.bits(row));
                break;
            case 4:
                due("rank" + at, x.rank(row, isOne, place), plain.rank(row, isOne, place));
                break;
            case 5:
                due("rankAgain" + at, x.rankAgain(row, isOne, place), plain.rank(row, isOne, place));
                break;
            case 6:
                due("select" + at, x.select(row, isOne, place), plain.select(row, isOne, place));
                break;
            default:
                due("placeIn of " + at, x.placeIn(row, place), plain.placeIn(row, place));
                break;
        }
    }

    private void lookAtParts(int from, int to, int place, int weight) {
        String at = "(" + from + ", " + to + ", " + place + ") and " + weight;
        int few = number(5);
        switch (below(7)) {
            case 0:
                due("quantile" + at, x.quantile(from, to, place), plain.quantile(from, to, place));
                break;
            case 1:
                due("quantileAgain" + at, x.quantileAgain(from, to, place), plain.quantile(from, to, place));
                break;
            case 2:
                due("count" + at, x.count(from, to, weight), plain.count(from, to, weight));
                break;
            case 3:
                due("lighter" + at, x.lighter(from, to, weight), plain.lighter(from, to, weight));
                break;
            case 4:
                due("atLeast" + at, x.atLeast(from, to, weight), plain.atLeast(from, to, weight));
                break;
            case 5:
                due("common " + few + " of " + at, x.common(from, to, few), plain.common(from, to, few));
                break;
            default:
                due("find(" + weight + ", " + few + ")", x.find(weight, few), plain.find(weight, few));
                break;
        }
    }

    private void lookAtBags(int bag, int place) {
        int what = number(6);
        switch (below(4)) {
            case 0:
            case 1:
                due("bagOf(" + bag + ", " + what + ")", x.bagOf(bag, what), plain.bagOf(bag, what));
                break;
            case 2:
                due("bagAt(" + place + ")", x.bagAt(place), plain.bagAt(place));
                break;
            default:
                due("ranked(" + bag + ")", x.ranked(bag), plain.ranked(bag));
                break;
        }
    }

    private void lookAtRest(int what, int row, int place) {
        switch (below(9)) {
            case 0:
                due("reason(false)", x.reason(false), plain.reason(false));
                break;
            case 1:
                due("reason(true)", x.reason(true), plain.reason(true));
                break;
            case 2:
                due("account(" + what + ")", x.account(what), plain.account(what));
                break;
            case 3:
                due("isBalanced()", x.isBalanced(), 1);
                break;
            case 4:
                calls++;
                CHECKS.sameDouble("meanWeight()", x.meanWeight(), plain.meanWeight());
                break;
            case 5:
                calls++;
                CHECKS.sameDouble("oneShare(" + row + ")", x.oneShare(row), plain.oneShare(row));
                break;
            case 6:
                due("tell()", x.tell(), plain.tell());
                break;
            case 7:
                due("tellRow(" + row + ")", x.tellRow(row), plain.tellRow(row));
                break;
            default:
                due("character(" + place + ")", x.character(place), plain.character(place));
                break;
        }
    }

    private void line() {
        int size = plain.tell();
        due("tell()", x.tell(), size);
        for (int index = -1; index <= size; index++) {
            due("character(" + index + ")", x.character(index), plain.character(index));
        }
    }

    /** Writes a text, mostly a right one, and often lets it be carried out. */
    private void text() {
        StringBuilder text = new StringBuilder();
        int orders = 1 + below(6);
        for (int order = 0; order < orders; order++) {
            String word = WORDS[below(WORDS.length)];
            text.append(order == 0 ? "" : ";").append(word).append(writtenNumber());
            if (word.equals("in ")) {
                text.append(' ').append(writtenNumber());
            }
        }
        if (below(3) == 0) {
            spoil(text);
        }
        for (int index = 0; index < text.length() && index <= 60; index++) {
            int code = text.charAt(index);
            due("append(" + code + ")", x.append(code), plain.append(code));
        }
        if (below(8) > 0) {
            due("run() of " + text, x.run(), plain.run());
        } else {
            int code = number(128);
            due("append(" + code + ")", x.append(code), plain.append(code));
        }
    }

    private String writtenNumber() {
        int number = below(6) == 0 ? below(100) : below(Math.max(3, Math.min(32, plain.account(0))));
        return below(5) == 0 && number < 10 ? "0" + number : String.valueOf(number);
    }

    private void spoil(StringBuilder text) {
        int index = below(text.length());
        String signs = "0 ;9pinosmc-1x";
        switch (below(4)) {
            case 0:
                text.deleteCharAt(index);
                break;
            case 1:
                text.insert(index, signs.charAt(below(signs.length())));
                break;
            case 2:
                text.setCharAt(index, signs.charAt(below(signs.length())));
                break;
            default:
                text.setLength(index);
                break;
        }
    }
}
