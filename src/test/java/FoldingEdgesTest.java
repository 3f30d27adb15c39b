/** Terms, and promises 15 to 17: the boundary cases of folding, sheets and creep. */
final class FoldingEdgesTest {
    private static final int[] LEAVES = {0, 2, 4, 8, 16};

    public static void main(String[] args) {
        firstAndLastPages();
        everyPageOnce();
        topAndBottomLeaves();
        turnedRows();
        noCreepWithTwoLeaves();
        creepRoundsDown();
        depthOfMiddleLeaves();
        creepIsOfBothSidesAndAllSheets();
        inPlaceOfWhatWasLaid();
        Check.end();
    }

    private static PrePressRoom laid(int pages, int folds, int creep) {
        PrePressRoom room = new PrePressRoom();
        room.impose(pages, folds, creep);
        return room;
    }

    private static int pageRead(PrePressRoom room, int sheet, int k) {
        return room.slot(sheet, room.read(k, 1), room.read(k, 0), 0);
    }

    private static int moveFromTop(PrePressRoom room, int leaf) {
        return room.slot(0, 0, room.read(2 * leaf, 0), 2);
    }

    /** "in rising order; sheets follow one another": page 0 comes first, 63 last. */
    private static void firstAndLastPages() {
        for (int folds = 1; folds <= 4; folds++) {
            int last = 2 * LEAVES[folds] - 1;
            PrePressRoom room = laid(64, folds, 0);
            int sheets = 64 / (last + 1);
            Check.due(0, () -> pageRead(room, 0, 0));
            Check.due(last, () -> pageRead(room, 0, last));
            Check.due(last + 1, () -> pageRead(room, 1, 0));
            Check.due(63, () -> pageRead(room, sheets - 1, last));
            Check.due(63 - last, () -> pageRead(room, sheets - 1, 0));
        }
    }

    private static void everyPageOnce() {
        for (int folds = 1; folds <= 4; folds++) {
            PrePressRoom room = laid(64, folds, 0);
            int[] seen = new int[64];
            for (int sheet = 0; sheet < 32 / LEAVES[folds]; sheet++) {
                for (int slot = 0; slot < LEAVES[folds]; slot++) {
                    seen[room.slot(sheet, 0, slot, 0)]++;
                    seen[room.slot(sheet, 1, slot, 0)]++;
                    int above = room.slot(sheet, 0, slot, 0);
                    int at = slot;
                    int of = sheet;
                    Check.due(above ^ 1, () -> room.slot(of, 1, at, 0));
                }
            }
            for (int page = 0; page < 64; page++) {
                int p = page;
                Check.due(1, () -> seen[p]);
            }
        }
    }

    /** What was turned over last lies on top; the leaf that is never turned over, slot 0, is the lowest. */
    private static void topAndBottomLeaves() {
        int[][] topSlotAndSide = {{}, {1, 1}, {2, 1}, {1, 1}, {4, 1}};
        for (int folds = 1; folds <= 4; folds++) {
            int[] top = topSlotAndSide[folds];
            int last = 2 * LEAVES[folds] - 1;
            PrePressRoom room = laid(32, folds, 0);
            Check.due(top[0], () -> room.read(0, 0));
            Check.due(top[1], () -> room.read(0, 1));
            Check.due(top[0], () -> room.read(1, 0));
            Check.due(1 - top[1], () -> room.read(1, 1));
            Check.due(0, () -> room.read(last, 0));
            Check.due(1, () -> room.read(last, 1));
            Check.due(0, () -> room.read(last - 1, 0));
            Check.due(0, () -> room.read(last - 1, 1));
        }
    }

    /** Turned over by the lower half once is upside down, not at all or twice is upright; columns turn nothing. */
    private static void turnedRows() {
        int[][] ofRows = {{}, {0}, {0, 1}, {0, 1}, {0, 1, 0, 1}};
        int[] columns = {0, 2, 2, 4, 4};
        for (int folds = 1; folds <= 4; folds++) {
            PrePressRoom room = laid(64, folds, 0);
            int lastSheet = 32 / LEAVES[folds] - 1;
            for (int slot = 0; slot < LEAVES[folds]; slot++) {
                int at = slot;
                int due = ofRows[folds][slot / columns[folds]];
                Check.due(due, () -> room.slot(0, 0, at, 1));
                Check.due(due, () -> room.slot(0, 1, at, 1));
                Check.due(due, () -> room.slot(lastSheet, 0, at, 1));
            }
        }
    }

    /** "0 with two leaves", where L / 2 - 1 is 0 and can't divide. */
    private static void noCreepWithTwoLeaves() {
        for (int creep : new int[] {0, 1, 999, 1000}) {
            PrePressRoom room = laid(64, 1, creep);
            for (int slot = 0; slot < 2; slot++) {
                int at = slot;
                Check.due(0, () -> room.slot(0, 0, at, 2));
                Check.due(0, () -> room.slot(15, 1, at, 2));
            }
        }
    }

    /** "creep * depth / (L / 2 - 1)": the divisor is 1, 3 and 7; below it the second leaf is not moved. */
    private static void creepRoundsDown() {
        Check.due(0, () -> moveFromTop(laid(8, 2, 0), 1));
        Check.due(1, () -> moveFromTop(laid(8, 2, 1), 1));
        Check.due(1000, () -> moveFromTop(laid(8, 2, 1000), 1));
        Check.due(0, () -> moveFromTop(laid(16, 3, 2), 1));
        Check.due(1, () -> moveFromTop(laid(16, 3, 3), 1));
        Check.due(1, () -> moveFromTop(laid(16, 3, 2), 2));
        Check.due(333, () -> moveFromTop(laid(16, 3, 1000), 1));
        Check.due(666, () -> moveFromTop(laid(16, 3, 1000), 2));
        Check.due(0, () -> moveFromTop(laid(32, 4, 6), 1));
        Check.due(1, () -> moveFromTop(laid(32, 4, 7), 1));
        Check.due(5, () -> moveFromTop(laid(32, 4, 6), 6));
        Check.due(6, () -> moveFromTop(laid(32, 4, 6), 7));
        Check.due(142, () -> moveFromTop(laid(32, 4, 1000), 1));
    }

    /** "at DEPTH k or L - 1 - k, the lower one": the two in the middle have all of the creep, the outer ones none. */
    private static void depthOfMiddleLeaves() {
        for (int folds = 2; folds <= 4; folds++) {
            int leaves = LEAVES[folds];
            PrePressRoom room = laid(64, folds, 1000);
            Check.due(0, () -> moveFromTop(room, 0));
            Check.due(0, () -> moveFromTop(room, leaves - 1));
            Check.due(1000, () -> moveFromTop(room, leaves / 2 - 1));
            Check.due(1000, () -> moveFromTop(room, leaves / 2));
            for (int leaf = 0; leaf < leaves / 2; leaf++) {
                int k = leaf;
                Check.due(moveFromTop(room, k), () -> moveFromTop(room, leaves - 1 - k));
                Check.due(1000 * k / (leaves / 2 - 1), () -> moveFromTop(room, k));
            }
        }
    }

    private static void creepIsOfBothSidesAndAllSheets() {
        PrePressRoom room = laid(64, 3, 30);
        for (int slot = 0; slot < 8; slot++) {
            int at = slot;
            int due = room.slot(0, 0, at, 2);
            Check.due(due, () -> room.slot(0, 1, at, 2));
            Check.due(due, () -> room.slot(3, 0, at, 2));
            Check.due(due, () -> room.slot(3, 1, at, 2));
        }
    }

    /** From the most leaves to the fewest and back: nothing of the former is left. */
    private static void inPlaceOfWhatWasLaid() {
        PrePressRoom room = laid(64, 4, 1000);
        Check.due(1, () -> room.impose(4, 1, 1000));
        Check.due(0, () -> room.slot(0, 0, 1, 2));
        Check.due(Check.INDEX, () -> room.slot(1, 0, 0, 0));
        Check.due(Check.INDEX, () -> room.slot(0, 0, 2, 0));
        Check.due(Check.INDEX, () -> room.read(4, 0));
        for (int k = 0; k < 4; k++) {
            int at = k;
            Check.due(at < 2 ? 1 : 0, () -> room.read(at, 0));
            Check.due(at % 3 == 0 ? 1 : 0, () -> room.read(at, 1));
        }
        Check.due(2, () -> room.impose(64, 4, 0));
        Check.due(0, () -> moveFromTop(room, 7));
        Check.due(63, () -> pageRead(room, 1, 31));
        Check.due(1, () -> room.slot(1, 1, 15, 1));
    }
}
