import java.lang.reflect.Field;

/**
 * That isBalanced answers 0 can't be brought about by calls, so what is held inside is put out of balance here, each
 * time in a way that only one of its conditions can see.
 */
final class BalanceTest extends Trial {
    private BalanceTest() {
    }

    public static void main(String[] args) throws Exception {
        lettersThatCame();
        weightsByBothWays();
        countsAtBlocks();
        weightsBySize();
        lettersOfBags();
        CHECKS.end();
    }

    private static Field field(Object holder, String name) throws Exception {
        Field field = holder.getClass().getDeclaredField(name);
        field.setAccessible(true);
        return field;
    }

    private static Object inside(LetterShelves x, String part) throws Exception {
        return field(x, part).get(x);
    }

    private static void add(Object part, String name, int more) throws Exception {
        Field field = field(part, name);
        field.setInt(part, field.getInt(part) + more);
    }

    private static int[] numbers(Object part, String name) throws Exception {
        return (int[]) field(part, name).get(part);
    }

    private static void lettersThatCame() throws Exception {
        CHECKS.begin("Promise 32: the letters are those that came less those taken out");
        for (int more : new int[] {-1, 1}) {
            LetterShelves x = with(1, 2, 3);
            x.take(1);
            add(inside(x, "letters"), "came", more);
            CHECKS.same("came", x.isBalanced(), 0);
            add(inside(x, "letters"), "left", more);
            CHECKS.same("came and taken", x.isBalanced(), 1);
            add(inside(x, "letters"), "left", -more);
            add(inside(x, "letters"), "came", -more);
            CHECKS.same("as it was", x.isBalanced(), 1);
        }
    }

    private static void weightsByBothWays() throws Exception {
        CHECKS.begin("Promise 32: weights are the same by both ways");
        // two letters change their places, and the rows are not told
        LetterShelves x = with(9, 4, 30);
        int[] weights = numbers(inside(x, "letters"), "weights");
        weights[1] = 30;
        weights[2] = 4;
        CHECKS.same("isBalanced", x.isBalanced(), 0);
        weights[1] = 4;
        weights[2] = 30;
        CHECKS.same("as it was", x.isBalanced(), 1);
        // the way of the only letter finds zeros one place too late, where weights by size find none
        LetterShelves y = with(31);
        int[] zeros = numbers(inside(y, "rows"), "zeros");
        zeros[0]++;
        CHECKS.same("quantile", y.quantile(0, 1, 0), 31);
        CHECKS.same("isBalanced", y.isBalanced(), 0);
        zeros[0]--;
        CHECKS.same("as it was", y.isBalanced(), 1);
    }

    private static void countsAtBlocks() throws Exception {
        CHECKS.begin("Promise 32: counts at all blocks are");
        // of letters of 31 alone, the weights by size do not look at the counts of zeros that are wrong then
        for (int row = 0; row < 5; row++) {
            for (int block = 1; block <= 8; block++) {
                LetterShelves x = alike(block * 8, 31);
                Object rows = inside(x, "rows");
                int[][] counts = (int[][]) field(rows, "onesAtBlocks").get(rows);
                counts[row][block]++;
                CHECKS.same("isBalanced", x.isBalanced(), 0);
                counts[row][block]--;
                CHECKS.same("as it was", x.isBalanced(), 1);
            }
        }
    }

    private static void weightsBySize() throws Exception {
        CHECKS.begin("Promise 32: weights by size of all letters are");
        // a letter of 16 is sought one place too late: its own way finds zeros there, which are due, but a part none
        for (LetterShelves x : new LetterShelves[] {with(16), with(0, 16)}) {
            int[] zeros = numbers(inside(x, "rows"), "zeros");
            zeros[0]++;
            CHECKS.same("weightAgain", x.weightAgain(x.account(0) - 1), 16);
            CHECKS.same("isBalanced", x.isBalanced(), 0);
            zeros[0]--;
            CHECKS.same("as it was", x.isBalanced(), 1);
        }
    }

    private static void lettersOfBags() throws Exception {
        CHECKS.begin("Promise 32: the letters of all bags are all letters");
        LetterShelves x = marked(with(1, 2, 3, 4), 2);
        add(inside(x, "bags"), "letterCount", 1);
        CHECKS.same("one too many", x.isBalanced(), 0);
        add(inside(x, "bags"), "letterCount", -2);
        CHECKS.same("one too few", x.isBalanced(), 0);
        add(inside(x, "bags"), "letterCount", 1);
        CHECKS.same("as it was", x.isBalanced(), 1);
        numbers(inside(x, "bags"), "begins")[0] = 1;
        CHECKS.same("one too few", x.isBalanced(), 0);
    }
}
