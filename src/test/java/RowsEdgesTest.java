/** The edges that the document names of the rows: promises 9 to 14, "Rows", "Counts" and "In doubt" of them. */
final class RowsEdgesTest extends Trial {
    private static final int[] SIZES = {0, 1, 7, 8, 9, 15, 16, 17, 63, 64};

    private RowsEdgesTest() {
    }

    public static void main(String[] args) {
        bitsOfWeights();
        rowFromRow();
        bitRows();
        bitPlaces();
        bitsOfNoRow();
        bitsBeyond();
        bitsOfAll();
        rankRows();
        rankPlaces();
        rankAhead();
        rankAtBlocks();
        selectRows();
        selectNumbers();
        selectNothing();
        selectBelowNone();
        selectRowFirst();
        selectAmongLetters();
        selectAtBlocks();
        placeInRows();
        placeInLetters();
        placeInOrder();
        CHECKS.end();
    }

    private static void bitsOfWeights() {
        CHECKS.begin("Rows: the bit of a letter is 1 if its weight has 16, 8, 4, 2, 1 in it");
        for (int weight = 0; weight < 32; weight++) {
            LetterShelves x = with(weight);
            int left = weight;
            for (int row = 0; row < 5; row++) {
                int part = new int[] {16, 8, 4, 2, 1}[row];
                int due = left >= part ? 1 : 0;
                left -= due * part;
                CHECKS.same("bit(" + row + ", 0) of " + weight, x.bit(row, 0), due);
                CHECKS.same("bits(" + row + ") of " + weight, x.bits(row), due);
            }
        }
    }

    private static void rowFromRow() {
        CHECKS.begin("Rows: first those whose bit is 0, then those whose bit is 1, each in their order");
        LetterShelves x = with(20, 3, 17, 3, 31, 0);
        // row 0: 20 3 17 3 31 0; row 1: 3 3 0 20 17 31; rows 2 and 3: 3 3 0 20 17 31 and 3 3 0 17 20 31;
        // row 4: 0 17 20 3 3 31
        String[] due = {"101010", "000001", "000101", "110001", "010111"};
        for (int row = 0; row < 5; row++) {
            CHECKS.sameText("tellRow(" + row + ")", toldRow(x, row), due[row]);
        }
        int[][] places = {{0, 1, 2, 3, 4, 5}, {3, 0, 4, 1, 5, 2}, {3, 0, 4, 1, 5, 2}, {4, 0, 3, 1, 5, 2},
            {2, 3, 1, 4, 5, 0}};
        for (int row = 0; row < 5; row++) {
            for (int place = 0; place < 6; place++) {
                CHECKS.same("placeIn(" + row + ", " + place + ")", x.placeIn(row, place), places[row][place]);
            }
        }
    }

    private static void bitRows() {
        CHECKS.begin("Promise 9: NONE if there is no such row");
        LetterShelves x = with(16, 31);
        CHECKS.same("bit(0, 0)", x.bit(0, 0), 1);
        CHECKS.same("bit(4, 0)", x.bit(4, 0), 0);
        CHECKS.same("bit(4, 1)", x.bit(4, 1), 1);
        for (int wrong : WRONG_ROWS) {
            CHECKS.same("bit(" + wrong + ", 0)", x.bit(wrong, 0), NONE);
            CHECKS.same("bit(" + wrong + ", 0) of 64", full().bit(wrong, 0), NONE);
        }
    }

    private static void bitPlaces() {
        CHECKS.begin("Promise 9: NONE if there is no such place");
        for (int size : SIZES) {
            LetterShelves x = alike(size, 31);
            for (int row = 0; row < 5; row++) {
                if (size > 0) {
                    CHECKS.same("the first one of " + size, x.bit(row, 0), 1);
                    CHECKS.same("the last one of " + size, x.bit(row, size - 1), 1);
                }
                for (int wrong : new int[] {-1, -64, size, size + 1, 64, 65, 128, MIN, MAX}) {
                    CHECKS.same("bit(" + row + ", " + wrong + ") of " + size, x.bit(row, wrong), NONE);
                }
            }
        }
    }

    private static void bitsOfNoRow() {
        CHECKS.begin("Promise 10: 0 if there is no such row");
        LetterShelves x = alike(64, 31);
        for (int wrong : WRONG_ROWS) {
            CHECKS.same("bits(" + wrong + ")", x.bits(wrong), 0);
        }
        CHECKS.same("bits(0)", x.bits(0), -1L);
        CHECKS.same("bits(4)", x.bits(4), -1L);
    }

    private static void bitsBeyond() {
        CHECKS.begin("In doubt: the bits beyond the letters are 0");
        LetterShelves x = alike(64, 31);
        for (int letters = 63; letters >= 0; letters--) {
            x.take(letters / 2);
            long due = (1L << letters) - 1L;
            for (int row = 0; row < 5; row++) {
                CHECKS.same("bits(" + row + ") of " + letters, x.bits(row), due);
            }
        }
    }

    private static void bitsOfAll() {
        CHECKS.begin("Promise 10: the bit k of the long is that at the place k");
        for (int place = 0; place < 64; place++) {
            LetterShelves x = alike(63, 0);
            x.insert(place, 16);
            CHECKS.same("bits(0) with 16 at " + place, x.bits(0), 1L << place);
            CHECKS.same("bits(1)", x.bits(1), 0);
        }
        CHECKS.same("no bit", alike(64, 0).bits(4), 0);
    }

    private static void rankRows() {
        CHECKS.begin("Promises 11, 12: NONE if there is no such row");
        LetterShelves x = with(16, 31);
        for (int row : new int[] {0, 4}) {
            CHECKS.same("rank in " + row, x.rank(row, true, 2), row == 0 ? 2 : 1);
            CHECKS.same("rankAgain in " + row, x.rankAgain(row, true, 2), row == 0 ? 2 : 1);
        }
        for (int wrong : WRONG_ROWS) {
            for (int place = 0; place <= 2; place++) {
                CHECKS.same("rank in " + wrong, x.rank(wrong, false, place), NONE);
                CHECKS.same("rankAgain in " + wrong, x.rankAgain(wrong, false, place), NONE);
            }
        }
    }

    private static void rankPlaces() {
        CHECKS.begin("Promises 11, 12: NONE if there is no such place");
        for (int size : SIZES) {
            LetterShelves x = mixed(size);
            for (int wrong : new int[] {-1, -8, -64, size + 1, size + 8, 65, 72, 128, MIN, MAX}) {
                CHECKS.same("rank at " + wrong + " of " + size, x.rank(0, true, wrong), NONE);
                CHECKS.same("rank at " + wrong + " of " + size, x.rank(4, false, wrong), NONE);
                CHECKS.same("rankAgain at " + wrong + " of " + size, x.rankAgain(0, true, wrong), NONE);
                CHECKS.same("rankAgain at " + wrong + " of " + size, x.rankAgain(4, false, wrong), NONE);
            }
        }
    }

    private static void rankAhead() {
        CHECKS.begin("Promises 11, 12: the place, from 0 to how many letters there are");
        for (int size : SIZES) {
            for (int row = 0; row < 5; row++) {
                LetterShelves ones = alike(size, 31);
                LetterShelves zeros = alike(size, 0);
                for (int place : new int[] {0, size / 2, size}) {
                    rankIs(ones, row, true, place, place);
                    rankIs(ones, row, false, place, 0);
                    rankIs(zeros, row, true, place, 0);
                    rankIs(zeros, row, false, place, place);
                }
            }
        }
    }

    private static void rankIs(LetterShelves x, int row, boolean isOne, int place, int due) {
        CHECKS.same("rank(" + row + ", " + isOne + ", " + place + ")", x.rank(row, isOne, place), due);
        CHECKS.same("rankAgain(" + row + ", " + isOne + ", " + place + ")", x.rankAgain(row, isOne, place), due);
    }

    private static void rankAtBlocks() {
        CHECKS.begin("Counts: blocks have 8 places, the first one from the place 0 on");
        for (int only = 0; only < 64; only++) {
            LetterShelves x = alike(63, 0);
            x.insert(only, 16);
            for (int place = 0; place <= 64; place++) {
                int due = place > only ? 1 : 0;
                rankIs(x, 0, true, place, due);
                rankIs(x, 0, false, place, place - due);
            }
        }
    }

    private static void selectRows() {
        CHECKS.begin("Promise 13: NONE if there is no such row");
        LetterShelves x = with(31, 0);
        for (int row = 0; row < 5; row++) {
            CHECKS.same("the 1 of " + row, x.select(row, true, 0), row == 0 ? 0 : 1);
            CHECKS.same("the 0 of " + row, x.select(row, false, 0), row == 0 ? 1 : 0);
        }
        for (int wrong : WRONG_ROWS) {
            CHECKS.same("select in " + wrong, x.select(wrong, true, 0), NONE);
            CHECKS.same("select in " + wrong, x.select(wrong, false, 0), NONE);
        }
    }

    private static void selectNumbers() {
        CHECKS.begin("Promise 13: how many are ahead of it, from 0 on");
        for (int size : SIZES) {
            for (int row : new int[] {0, 4}) {
                LetterShelves ones = alike(size, 31);
                LetterShelves zeros = alike(size, 0);
                for (int ahead = 0; ahead < size; ahead++) {
                    CHECKS.same("the 1 by " + ahead, ones.select(row, true, ahead), ahead);
                    CHECKS.same("the 0 by " + ahead, zeros.select(row, false, ahead), ahead);
                }
            }
        }
    }

    private static void selectNothing() {
        CHECKS.begin("Promise 13: NOTHING if there are no more than so many");
        for (int size : SIZES) {
            LetterShelves ones = alike(size, 31);
            LetterShelves zeros = alike(size, 0);
            for (int row = 0; row < 5; row++) {
                for (int ahead : new int[] {size, size + 1, 64, 65, MAX}) {
                    CHECKS.same("the 1 by " + ahead + " of " + size, ones.select(row, true, ahead), NOTHING);
                    CHECKS.same("the 0 by " + ahead + " of " + size, zeros.select(row, false, ahead), NOTHING);
                }
            }
        }
    }

    private static void selectBelowNone() {
        CHECKS.begin("In doubt: places ahead below 0 are no such bits, and are told as NOTHING");
        LetterShelves x = with(31, 0);
        for (int wrong : new int[] {-1, -2, -64, MIN, MIN + 1}) {
            for (int row = 0; row < 5; row++) {
                CHECKS.same("the 1 by " + wrong, x.select(row, true, wrong), NOTHING);
                CHECKS.same("the 0 by " + wrong, x.select(row, false, wrong), NOTHING);
            }
            CHECKS.same("by " + wrong + " without letters", with().select(0, true, wrong), NOTHING);
        }
    }

    private static void selectRowFirst() {
        CHECKS.begin("Promise 13: NONE is listed ahead of NOTHING");
        for (LetterShelves x : new LetterShelves[] {with(), with(31, 0), full()}) {
            for (int wrong : WRONG_ROWS) {
                for (int ahead : new int[] {-1, 64, MIN, MAX}) {
                    CHECKS.same("select(" + wrong + ", .., " + ahead + ")", x.select(wrong, true, ahead), NONE);
                    CHECKS.same("select(" + wrong + ", .., " + ahead + ")", x.select(wrong, false, ahead), NONE);
                }
            }
        }
    }

    private static void selectAmongLetters() {
        CHECKS.begin("Promise 13: no bits but those of letters");
        for (int row = 0; row < 5; row++) {
            CHECKS.same("a 0 without letters", with().select(row, false, 0), NOTHING);
            CHECKS.same("a 1 without letters", with().select(row, true, 0), NOTHING);
            CHECKS.same("a 0 of three 1", with(31, 31, 31).select(row, false, 0), NOTHING);
            CHECKS.same("a 1 of three 0", with(0, 0, 0).select(row, true, 0), NOTHING);
            CHECKS.same("a 0 of eight 1", alike(8, 31).select(row, false, 0), NOTHING);
        }
    }

    private static void selectAtBlocks() {
        CHECKS.begin("Counts: a bit is found in each block, at each of its places");
        for (int only = 0; only < 64; only++) {
            LetterShelves x = alike(63, 0);
            x.insert(only, 16);
            LetterShelves y = alike(63, 31);
            y.insert(only, 15);
            CHECKS.same("the only 1 at " + only, x.select(0, true, 0), only);
            CHECKS.same("no other", x.select(0, true, 1), NOTHING);
            CHECKS.same("the only 0 at " + only, y.select(0, false, 0), only);
            CHECKS.same("no other", y.select(0, false, 1), NOTHING);
            for (int ahead = 0; ahead < 63; ahead++) {
                int due = ahead < only ? ahead : ahead + 1;
                CHECKS.same("the 0 by " + ahead, x.select(0, false, ahead), due);
                CHECKS.same("the 1 by " + ahead, y.select(0, true, ahead), due);
            }
            CHECKS.same("no more", x.select(0, false, 63), NOTHING);
            CHECKS.same("no more", y.select(0, true, 63), NOTHING);
        }
    }

    private static void placeInRows() {
        CHECKS.begin("Promise 14: NONE if there is no such row");
        LetterShelves x = with(31, 0);
        CHECKS.same("placeIn(0, 0)", x.placeIn(0, 0), 0);
        CHECKS.same("placeIn(4, 0)", x.placeIn(4, 0), 1);
        for (int wrong : WRONG_ROWS) {
            CHECKS.same("placeIn(" + wrong + ", 0)", x.placeIn(wrong, 0), NONE);
            CHECKS.same("placeIn(" + wrong + ", 2)", x.placeIn(wrong, 2), NONE);
        }
    }

    private static void placeInLetters() {
        CHECKS.begin("Promise 14: NONE if there is no such letter");
        for (int size : SIZES) {
            LetterShelves x = alike(size, 9);
            for (int row = 0; row < 5; row++) {
                if (size > 0) {
                    CHECKS.same("the first one of " + size, x.placeIn(row, 0), 0);
                    CHECKS.same("the last one of " + size, x.placeIn(row, size - 1), size - 1);
                }
                for (int wrong : new int[] {-1, size, size + 1, 64, 65, MIN, MAX}) {
                    CHECKS.same("placeIn(" + row + ", " + wrong + ") of " + size, x.placeIn(row, wrong), NONE);
                }
            }
        }
    }

    private static void placeInOrder() {
        CHECKS.begin("Promise 14: returns its place in the row");
        LetterShelves x = new LetterShelves();
        for (int place = 0; place < 64; place++) {
            x.put(place < 32 ? 16 : 0);
        }
        for (int place = 0; place < 64; place++) {
            CHECKS.same("placeIn(0, " + place + ")", x.placeIn(0, place), place);
            CHECKS.same("placeIn(1, " + place + ")", x.placeIn(1, place), (place + 32) % 64);
            CHECKS.same("placeIn(4, " + place + ")", x.placeIn(4, place), (place + 32) % 64);
        }
    }
}
