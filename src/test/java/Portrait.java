import java.util.function.Supplier;

/** All that can be asked of shelves, as a text, to see whether a call leaves them unchanged. */
final class Portrait {
    private final Supplier<LetterShelves> made;
    private final StringBuilder told = new StringBuilder();

    /** A look may change shelves, too, and they are made for 512 calls: each look is taken at shelves made anew. */
    private Portrait(Supplier<LetterShelves> made) {
        this.made = made;
    }

    /** All but the reasons, which a refusal keeps. */
    static String withoutReasons(Supplier<LetterShelves> made) {
        Portrait portrait = new Portrait(made);
        portrait.line();
        portrait.text();
        portrait.past();
        portrait.snapshot();
        return portrait.told.toString();
    }

    static String of(Supplier<LetterShelves> made) {
        LetterShelves x = made.get();
        return withoutReasons(made) + " reason " + x.reason(false) + " " + x.reason(true);
    }

    private void line() {
        LetterShelves x = made.get();
        told.append("line ");
        for (int index = 0; index < 130; index++) {
            int code = x.character(index);
            told.append(code < 0 ? "." : String.valueOf((char) code));
        }
    }

    private void text() {
        LetterShelves x = made.get();
        told.append("\ntext ").append(x.account(9)).append(" runs ").append(x.run());
        letters(x);
    }

    private void past() {
        int changes = made.get().account(10);
        told.append("\nchanges ").append(changes);
        for (int undone = 0; undone <= changes; undone++) {
            LetterShelves x = made.get();
            for (int time = 0; time < undone; time++) {
                x.undo();
            }
            letters(x);
        }
    }

    private void snapshot() {
        LetterShelves x = made.get();
        told.append("\nsnapshot ").append(x.restore());
        letters(x);
    }

    private void letters(LetterShelves x) {
        told.append("\n  accounts");
        for (int what = 0; what <= 8; what++) {
            told.append(' ').append(x.account(what));
        }
        told.append(" balanced ").append(x.isBalanced()).append(" rows");
        for (int row = 0; row < 5; row++) {
            told.append(' ').append(x.bits(row));
        }
        told.append(" letters");
        for (int place = 0; place < 64; place++) {
            told.append(' ').append(x.weight(place));
        }
        told.append(" marks");
        for (int place = 1; place < 64; place++) {
            // what is marked already can't be marked again
            told.append(x.mark(place, true) == Trial.REFUSED ? '|' : '.');
        }
    }
}
