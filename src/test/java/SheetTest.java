/** Promises 15, 16 and 17: impose, slot and read. */
final class SheetTest {
    public static void main(String[] args) {
        sheetCounts();
        oneFold();
        twoFolds();
        threeFolds();
        fourFolds();
        creeps();
        inPlaceOfWhatWasLaid();
        wrongInputs();
        Check.end();
    }

    private static void sheetCounts() {
        PrePressRoom room = new PrePressRoom();
        for (int folds = 1; folds <= 4; folds++) {
            int f = folds;
            int ofSheet = 4 << (f - 1);
            for (int pages = -1; pages <= 70; pages++) {
                int p = pages;
                boolean fits = p >= 1 && p <= 64 && p % ofSheet == 0;
                Check.due(fits ? p / ofSheet : Check.ARGUMENT, () -> room.impose(p, f, 1000));
            }
        }
        for (int folds : new int[] {0, 5, -1, 32, 33, Integer.MIN_VALUE, Integer.MAX_VALUE}) {
            Check.due(Check.ARGUMENT, () -> room.impose(64, folds, 0));
        }
        for (int creep : new int[] {-1, 1001, Integer.MIN_VALUE, Integer.MAX_VALUE}) {
            Check.due(Check.ARGUMENT, () -> room.impose(64, 1, creep));
        }
        for (int pages : new int[] {128, 4096, Integer.MIN_VALUE, Integer.MAX_VALUE - 3}) {
            Check.due(Check.ARGUMENT, () -> room.impose(pages, 1, 0));
        }
    }

    private static void pages(PrePressRoom room, int sheet, int side, int... due) {
        for (int slot = 0; slot < due.length; slot++) {
            int s = slot;
            Check.due(due[s], () -> room.slot(sheet, side, s, 0));
        }
    }

    private static void reads(PrePressRoom room, int sheetPages) {
        for (int k = 0; k < sheetPages; k++) {
            int at = k;
            Check.due(at, () -> room.slot(0, room.read(at, 1), room.read(at, 0), 0));
        }
    }

    private static void turns(PrePressRoom room, int columns, int... ofRows) {
        for (int slot = 0; slot < columns * ofRows.length; slot++) {
            int s = slot;
            Check.due(ofRows[s / columns], () -> room.slot(0, 0, s, 1));
            Check.due(ofRows[s / columns], () -> room.slot(0, 1, s, 1));
        }
    }

    private static void oneFold() {
        PrePressRoom room = new PrePressRoom();
        room.impose(64, 1, 9);
        pages(room, 0, 0, 2, 1);
        pages(room, 0, 1, 3, 0);
        pages(room, 15, 0, 62, 61);
        pages(room, 15, 1, 63, 60);
        reads(room, 4);
        turns(room, 2, 0);
        Check.due(1, () -> room.read(0, 0));
        Check.due(1, () -> room.read(0, 1));
        Check.due(1, () -> room.read(1, 0));
        Check.due(0, () -> room.read(1, 1));
        Check.due(0, () -> room.read(3, 0));
        Check.due(1, () -> room.read(3, 1));
    }

    private static void twoFolds() {
        PrePressRoom room = new PrePressRoom();
        room.impose(24, 2, 9);
        pages(room, 0, 0, 6, 5, 1, 2);
        pages(room, 0, 1, 7, 4, 0, 3);
        pages(room, 2, 0, 22, 21, 17, 18);
        reads(room, 8);
        turns(room, 2, 0, 1);
    }

    private static void threeFolds() {
        PrePressRoom room = new PrePressRoom();
        room.impose(32, 3, 9);
        pages(room, 0, 0, 14, 1, 2, 13, 9, 6, 5, 10);
        pages(room, 1, 1, 31, 16, 19, 28, 24, 23, 20, 27);
        reads(room, 16);
        turns(room, 4, 0, 1);
    }

    private static void fourFolds() {
        PrePressRoom room = new PrePressRoom();
        room.impose(32, 4, 9);
        pages(room, 0, 0, 30, 17, 18, 29, 1, 14, 13, 2, 6, 9, 10, 5, 25, 22, 21, 26);
        reads(room, 32);
        turns(room, 4, 0, 1, 0, 1);
    }

    /** Of the leaves from the top, the middle two are the deepest. */
    private static void creeps() {
        creepsFromTop(1, 1000, 0, 0);
        creepsFromTop(2, 7, 0, 7, 7, 0);
        creepsFromTop(3, 10, 0, 3, 6, 10, 10, 6, 3, 0);
        creepsFromTop(3, 0, 0, 0, 0, 0, 0, 0, 0, 0);
        creepsFromTop(4, 1000, 0, 142, 285, 428, 571, 714, 857, 1000, 1000, 857, 714, 571, 428, 285, 142, 0);
    }

    private static void creepsFromTop(int folds, int creep, int... due) {
        PrePressRoom room = new PrePressRoom();
        room.impose(4 << (folds - 1), folds, creep);
        for (int k = 0; k < 2 * due.length; k++) {
            int at = k;
            Check.due(due[at / 2], () -> room.slot(0, room.read(at, 1), room.read(at, 0), 2));
        }
    }

    private static void inPlaceOfWhatWasLaid() {
        PrePressRoom room = new PrePressRoom();
        Check.due(Check.ARGUMENT, () -> room.impose(5, 1, 0));
        Check.due(Check.STATE, () -> room.read(0, 0));
        Check.due(2, () -> room.impose(64, 4, 70));
        Check.due(Check.ARGUMENT, () -> room.impose(4, 1, 1001));
        Check.due(Check.ARGUMENT, () -> room.impose(6, 1, 0));
        Check.due(12, () -> room.read(24, 0));
        Check.due(62, () -> room.slot(1, 0, 0, 0));
        Check.due(1, () -> room.impose(8, 2, 3));
        Check.due(6, () -> room.slot(0, 0, 0, 0));
        Check.due(3, () -> room.slot(0, 0, 1, 2));
        Check.due(Check.INDEX, () -> room.slot(1, 0, 0, 0));
        Check.due(Check.INDEX, () -> room.slot(0, 0, 4, 0));
        Check.due(Check.INDEX, () -> room.read(8, 0));
        Check.due(0, () -> room.read(7, 0));
    }

    private static void wrongInputs() {
        PrePressRoom room = new PrePressRoom();
        Check.due(Check.STATE, () -> room.slot(-1, 0, 0, 0));
        Check.due(Check.STATE, () -> room.slot(0, 0, 0, 3));
        Check.due(Check.STATE, () -> room.read(-1, 0));
        Check.due(Check.STATE, () -> room.read(0, 2));
        room.impose(32, 3, 0);
        for (int off : new int[] {-1, 2, Integer.MIN_VALUE, Integer.MAX_VALUE}) {
            Check.due(Check.INDEX, () -> room.slot(off, 0, 0, 0));
            Check.due(Check.INDEX, () -> room.slot(0, off, 0, 0));
            Check.due(Check.INDEX, () -> room.read(0, off));
        }
        for (int off : new int[] {-1, 8, Integer.MIN_VALUE, Integer.MAX_VALUE}) {
            Check.due(Check.INDEX, () -> room.slot(0, 0, off, 0));
        }
        for (int off : new int[] {-1, 3, Integer.MIN_VALUE, Integer.MAX_VALUE}) {
            Check.due(Check.INDEX, () -> room.slot(0, 0, 0, off));
        }
        for (int off : new int[] {-1, 16, Integer.MIN_VALUE, Integer.MAX_VALUE}) {
            Check.due(Check.INDEX, () -> room.read(off, 0));
        }
        Check.due(0, () -> room.slot(1, 1, 7, 2));
        Check.due(0, () -> room.read(15, 0));
    }
}
