import java.util.Set;
import java.util.TreeSet;

/** "Terms" from screens to the constants: a method for each sentence, in their order. */
final class TermsOfPrintingTest {
    private static final int[] PAGES_OF_SHEET = {0, 4, 8, 16, 32};

    public static void main(String[] args) {
        lattices();
        classes();
        screensAtFirst();
        forms();
        hearts();
        ranks();
        dots();
        fullCells();
        leavesInColumnsAndRows();
        slotsAndSides();
        folding();
        inOnePlace();
        pagesInRisingOrder();
        turns();
        creep();
        firstExceptionTold();
        nothingThere();
        Check.end();
    }

    private static int[] at(int x, int y) {
        return new int[] {x, y};
    }

    /** These places have the ranks from that one on, one after another. */
    private static void ranksFrom(int first, PrePressRoom room, int[]... places) {
        for (int i = 0; i < places.length; i++) {
            int[] place = places[i];
            Check.due(first + i, () -> room.rank(0, place[0], place[1]));
        }
    }

    private static PrePressRoom screened(int a, int b, int shape) {
        PrePressRoom room = new PrePressRoom();
        room.screen(0, a, b, shape);
        return room;
    }

    private static PrePressRoom laid(int folds, int creep) {
        PrePressRoom room = new PrePressRoom();
        room.impose(PAGES_OF_SHEET[folds], folds, creep);
        return room;
    }

    /** What slot() answers of all slots of a side, in their order. */
    private static String slots(PrePressRoom room, int folds, int side, int what) {
        StringBuilder told = new StringBuilder();
        for (int slot = 0; slot < PAGES_OF_SHEET[folds] / 2; slot++) {
            told.append(slot == 0 ? "" : " ").append(room.slot(0, side, slot, what));
        }
        return told.toString();
    }

    /**
     * "A SCREEN, of each ink, has a LATTICE by two numbers a, b, and a SHAPE: all places (i * a - j * b, i * b + j * a)
     * for whole i, j; N is a * a + b * b."
     */
    private static void lattices() {
        PrePressRoom room = screened(2, 1, 0);
        Check.due(14, () -> room.rank(1, 2, 1));
        int ofLattice = 0;
        for (int x = -5; x <= 5; x++) {
            for (int y = -5; y <= 5; y++) {
                ofLattice += room.rank(0, x, y) == 0 ? 1 : 0;
            }
        }
        Check.compare("places of the lattice", "" + ofLattice, "25");
        for (int i = -3; i <= 3; i++) {
            for (int j = -3; j <= 3; j++) {
                int x = 2 * i - j;
                int y = i + 2 * j;
                Check.due(0, () -> room.rank(0, x, y));
            }
        }
        Check.due(5, () -> room.screen(0, 2, 1, 0));
        Check.due(25, () -> room.screen(0, 3, -4, 1));
        Check.due(400, () -> room.screen(0, -12, 16, 2));
    }

    /** "Two places are of one CLASS, if their difference is of the lattice: there are N classes." */
    private static void classes() {
        // Wide and high as one of each class is: N places in a row, or fewer in as many rows as divide a and b.
        int[][] lattices = {{2, 1, 5, 1}, {7, 3, 58, 1}, {-3, 7, 58, 1}, {6, 4, 26, 2}, {4, 0, 4, 4}, {0, -3, 3, 3}};
        for (int[] of : lattices) {
            for (int shape = 0; shape < 3; shape++) {
                PrePressRoom room = screened(of[0], of[1], shape);
                Set<Integer> ranks = new TreeSet<>();
                for (int i = 0; i < of[2] * of[3]; i++) {
                    int x = i % of[2];
                    int y = i / of[2];
                    int rank = room.rank(0, x, y);
                    ranks.add(rank);
                    Check.due(rank, () -> room.rank(0, x + of[0], y + of[1]));
                    Check.due(rank, () -> room.rank(0, x - of[1], y + of[0]));
                }
                Check.due(of[0] * of[0] + of[1] * of[1], ranks::size);
            }
        }
    }

    /** "At first a is 4, b 0, the shape 0." */
    private static void screensAtFirst() {
        int[][] rows = {{0, 3, 10, 2}, {4, 8, 14, 7}, {9, 12, 15, 11}, {1, 6, 13, 5}};
        for (int i = 0; i < 8; i++) {
            int ink = i;
            PrePressRoom room = new PrePressRoom();
            for (int j = 0; j < 16; j++) {
                int x = j % 4;
                int y = j / 4;
                Check.due(rows[y][x], () -> room.rank(ink, x, y));
                Check.due(rows[y][x], () -> room.rank(ink, x - 8, y + 4));
            }
        }
    }

    /**
     * "The FORM of a place x, y: shape 0 ROUND x * x + y * y; 1 LINE: the amount of a * y - b * x (without a sign); 2
     * DIAMOND: the amounts of x and y together."
     */
    private static void forms() {
        // 2, 2 has 8 by ROUND and 4 by DIAMOND, 3, 0 has 9 and 3.
        ranksFrom(21, screened(7, 0, 0), at(-2, -2), at(2, -2), at(-2, 2), at(2, 2), at(0, -3), at(-3, 0), at(3, 0), at(0, 3));
        ranksFrom(21, screened(7, 0, 2), at(0, -3), at(-3, 0), at(3, 0), at(0, 3), at(-2, -2), at(2, -2), at(-2, 2), at(2, 2));
        // By LINE along 3, 2 two places each have 1, 2, .. 6.
        ranksFrom(0, screened(3, 2, 1), at(0, 0), at(-1, -1), at(1, 1), at(-1, 0), at(1, 0), at(0, -1), at(0, 1),
            at(-2, 0), at(2, 0), at(1, -1), at(-1, 1), at(0, -2), at(0, 2));
    }

    /** Of each of two places 1, when it is a heart: when the full cell round 0, 0, moved on to the page, has it. */
    private static String heartsAmong(int[] lattice, int[] one, int[] two) {
        int n = lattice[0] * lattice[0] + lattice[1] * lattice[1];
        int move = n > 30 ? 25 : 30 / n * n;
        StringBuilder told = new StringBuilder();
        for (int[] place : new int[][] {one, two}) {
            PrePressRoom room = Rooms.with(Rooms.row(1, 0, 255));
            room.screen(0, lattice[0], lattice[1], lattice[2]);
            room.box(0, move + place[0], move + place[1], 1, 1, 1);
            room.separate(0);
            told.append(room.share(0, 0, move, move));
        }
        return told.toString();
    }

    /**
     * "THE HEART of a class is its place with the least form, of equal ones the least x * x + y * y, then the least y,
     * then the least x."
     */
    private static void hearts() {
        // Of 5, -3 and 0, 7 the first is nearer, the second has the lesser amounts.
        Check.due("10", () -> heartsAmong(new int[] {10, 5, 0}, at(5, -3), at(0, 7)));
        Check.due("01", () -> heartsAmong(new int[] {10, 5, 2}, at(5, -3), at(0, 7)));
        Check.due("10", () -> heartsAmong(new int[] {3, 1, 2}, at(-1, 1), at(0, -2)));
        for (int shape = 0; shape < 3; shape++) {
            int s = shape;
            Check.due("10", () -> heartsAmong(new int[] {2, 2, s}, at(1, -1), at(-1, 1)));
            Check.due("10", () -> heartsAmong(new int[] {2, 0, s}, at(-1, -1), at(1, -1)));
        }
    }

    /** "RANKS 0 .. N - 1 of classes: by the forms of their hearts, of equal ones as among hearts." */
    private static void ranks() {
        ranksFrom(0, screened(3, 2, 0), at(0, 0), at(0, -1), at(-1, 0), at(1, 0), at(0, 1), at(-1, -1), at(1, -1),
            at(-1, 1), at(1, 1), at(0, -2), at(-2, 0), at(2, 0), at(0, 2));
        ranksFrom(5, screened(5, 0, 2), at(-1, -1), at(1, -1), at(-1, 1), at(1, 1), at(0, -2), at(-2, 0), at(2, 0), at(0, 2));
        ranksFrom(0, screened(0, -5, 1), at(0, 0), at(0, -1), at(0, 1), at(0, -2), at(0, 2), at(-1, 0), at(1, 0));
        ranksFrom(399, screened(20, 0, 0), at(10, 10));
        ranksFrom(0, screened(0, 1, 0), at(10, 10));
    }

    /**
     * "In a cell of a plate with amount v a DOT is printed, if the rank of its place (x across, y down, from 0) is below
     * (v * N + 127) / 255."
     */
    private static void dots() {
        // 29 * 13 + 127 is 504, 30 * 13 + 127 is 517; 2, 1 is of the class with rank 1, 1, 2 of one with rank 7.
        int[][] due = {{0, 0, 0}, {9, 0, 0}, {10, 1, 0}, {29, 1, 0}, {30, 1, 1}, {49, 1, 1}};
        for (int[] of : due) {
            PrePressRoom room = Rooms.with(Rooms.row(0, 0, of[0]));
            room.screen(0, 3, 2, 1);
            room.separate(0);
            Check.due(of[1] == 1, () -> room.dot(0, 0, 0, 0));
            Check.due(of[2] == 1, () -> room.dot(0, 0, 2, 1));
            Check.due(false, () -> room.dot(0, 0, 1, 2));
            Check.due(false, () -> room.dot(0, 0, 1, 1));
        }
        // With N 1 that is 0 of 127 and 1 of 128.
        PrePressRoom room = Rooms.with(Rooms.row(0, 0, 127), Rooms.row(0, 1, 128));
        room.screen(0, 1, 0, 0);
        room.screen(1, 1, 0, 0);
        room.separate(0);
        Check.due(false, () -> room.dot(0, 0, 47, 63));
        Check.due(true, () -> room.dot(0, 1, 47, 63));
    }

    /** "A FULL CELL of a lattice has the places of all hearts, moved by one place of the lattice." */
    private static void fullCells() {
        PrePressRoom room = Rooms.with(Rooms.row(1, 0, 255));
        room.screen(0, 2, 1, 0);
        room.box(0, 2, 2, 1, 1, 1);
        room.box(0, 1, 1, 1, 1, 1);
        room.separate(0);
        for (int[] place : new int[][] {at(2, 1), at(2, 0), at(1, 1), at(3, 1), at(2, 2)}) {
            Check.due(2, () -> room.share(0, 0, place[0], place[1]));
        }
        for (int[] place : new int[][] {at(1, 3), at(1, 2), at(0, 3), at(2, 3), at(1, 4)}) {
            Check.due(0, () -> room.share(0, 0, place[0], place[1]));
        }
        for (int[] place : new int[][] {at(0, 0), at(1, 0), at(0, 1)}) {
            Check.due(-1, () -> room.share(0, 0, place[0], place[1]));
        }
    }

    /**
     * "SHEETS are folded 1 to 4 times; with f folds they have 2 to the power f LEAVES in columns and rows: 2 columns, 1
     * row for f 1; 2, 2; 4, 2; 4, 4." The leaf that comes to lie at the bottom has slot 0; the one above it is the last of
     * its row, and the one that the first fold down the page lays on the pile is the first of the last row.
     */
    private static void leavesInColumnsAndRows() {
        Check.ends(1, 4, Check.ARGUMENT, folds -> new PrePressRoom().impose(64, folds, 0));
        int[] leaves = {0, 2, 4, 8, 16};
        int[] columns = {0, 2, 2, 4, 4};
        for (int i = 1; i <= 4; i++) {
            int folds = i;
            PrePressRoom room = laid(folds, 0);
            Check.ends(0, leaves[folds] - 1, Check.INDEX, slot -> room.slot(0, 0, slot, 0));
            Check.due(0, () -> room.read(2 * leaves[folds] - 1, 0));
            Check.due(columns[folds] - 1, () -> room.read(2 * leaves[folds] - 3, 0));
        }
        Check.due(4 - 2, () -> laid(2, 0).read(0, 0));
        Check.due(8 - 4, () -> laid(3, 0).read(2 * 4, 0));
        Check.due(16 - 4, () -> laid(4, 0).read(2 * 12, 0));
    }

    /** "SLOTS are numbered row by row from 0; each has two SIDES, 0 above." */
    private static void slotsAndSides() {
        for (int i = 1; i <= 4; i++) {
            PrePressRoom room = laid(i, 0);
            Check.ends(0, 1, Check.INDEX, side -> room.slot(0, side, 0, 0));
        }
        // Slot 0 is never turned over: side 0 is still above, at the bottom of the pile.
        Check.due(2, () -> laid(1, 0).slot(0, 0, 0, 0));
        Check.due(3, () -> laid(1, 0).slot(0, 1, 0, 0));
        Check.due("14 1 2 13 9 6 5 10", () -> slots(laid(3, 0), 3, 0, 0));
        Check.due("15 0 3 12 8 7 4 11", () -> slots(laid(3, 0), 3, 1, 0));
    }

    /** The slots from the top of the pile, with a stroke behind those whose side 1 is up. */
    private static String readAll(int folds) {
        PrePressRoom room = laid(folds, 0);
        StringBuilder told = new StringBuilder();
        for (int k = 0; k < PAGES_OF_SHEET[folds]; k += 2) {
            told.append(k == 0 ? "" : " ").append(room.read(k, 0)).append(room.read(k, 1) == 1 ? "'" : "");
        }
        return told.toString();
    }

    /**
     * "FOLDING: the first and third time the right half is turned over on the left one, the second and fourth time the
     * lower half on the upper one: what was above in it is below then, and the order of its leaves is turned, above those
     * of the other half; by the lower half also what is on them stands upside down."
     */
    private static void folding() {
        Check.due("1' 0", () -> readAll(1));
        Check.due("2' 3 1' 0", () -> readAll(2));
        Check.due("1' 2 6' 5 4' 7 3' 0", () -> readAll(3));
        Check.due("4' 7 11' 8 9' 10 6' 5 1' 2 14' 13 12' 15 3' 0", () -> readAll(4));
    }

    /** "At the end all leaves lie in one place." Each leaf is in the pile once, with one side up and the other down. */
    private static void inOnePlace() {
        for (int folds = 1; folds <= 4; folds++) {
            PrePressRoom room = laid(folds, 0);
            Set<Integer> slots = new TreeSet<>();
            for (int i = 0; i < PAGES_OF_SHEET[folds]; i += 2) {
                int k = i;
                slots.add(room.read(k, 0));
                Check.due(room.read(k, 0), () -> room.read(k + 1, 0));
                Check.due(1 - room.read(k, 1), () -> room.read(k + 1, 1));
            }
            Check.due(PAGES_OF_SHEET[folds] / 2, slots::size);
        }
    }

    /**
     * "Read from the top, of each leaf the upper side, then the lower one, they have the pages of this sheet in rising
     * order; sheets follow one another."
     */
    private static void pagesInRisingOrder() {
        for (int folds = 1; folds <= 4; folds++) {
            int ofSheet = PAGES_OF_SHEET[folds];
            PrePressRoom room = new PrePressRoom();
            room.impose(64, folds, 0);
            for (int i = 0; i < 64; i++) {
                int page = i;
                int k = page % ofSheet;
                Check.due(page, () -> room.slot(page / ofSheet, room.read(k, 1), room.read(k, 0), 0));
            }
        }
    }

    /** "A slot's side has a TURN 1, when what is on it would stand upside down at the end." Two such folds undo it. */
    private static void turns() {
        for (int i = 0; i < 2; i++) {
            int side = i;
            Check.due("0 0", () -> slots(laid(1, 0), 1, side, 1));
            Check.due("0 0 1 1", () -> slots(laid(2, 0), 2, side, 1));
            Check.due("0 0 0 0 1 1 1 1", () -> slots(laid(3, 0), 3, side, 1));
            Check.due("0 0 0 0 1 1 1 1 0 0 0 0 1 1 1 1", () -> slots(laid(4, 0), 4, side, 1));
        }
    }

    /** By how much the leaves are moved, from the top of the pile. */
    private static String moves(int folds, int creep) {
        PrePressRoom room = laid(folds, creep);
        StringBuilder told = new StringBuilder();
        for (int k = 0; k < PAGES_OF_SHEET[folds]; k += 2) {
            told.append(k == 0 ? "" : " ").append(room.slot(0, room.read(k, 1), room.read(k, 0), 2));
        }
        return told.toString();
    }

    /**
     * "CREEP: leaf k from the top (0 the first) of L is at DEPTH k or L - 1 - k, the lower one; it is moved by creep *
     * depth / (L / 2 - 1) (0 with two leaves)."
     */
    private static void creep() {
        Check.due("0 0", () -> moves(1, 1000));
        Check.due("0 999 999 0", () -> moves(2, 999));
        Check.due("0 3 6 10 10 6 3 0", () -> moves(3, 10));
        Check.due("0 1 2 4 5 7 8 10 10 8 7 5 4 2 1 0", () -> moves(4, 10));
        Check.due("0 0 0 0 0 0 0 0", () -> moves(3, 0));
    }

    /** "Of several exceptions the first one told is thrown." */
    private static void firstExceptionTold() {
        PrePressRoom room = Rooms.with(Rooms.row(0, 4, 1));
        Check.due(Check.INDEX, () -> room.colour(64, 5, 256));
        Check.due(Check.INDEX, () -> room.colour(0, 8, 256));
        Check.due(Check.ARGUMENT, () -> room.colour(0, 5, 256));
        Check.due(Check.INDEX, () -> room.box(4, 0, 0, 0, 0, 0));
        Check.due(Check.INDEX, () -> room.box(0, 0, 0, 0, 0, 64));
        Check.due(Check.INDEX, () -> room.plate(0, 8, 0, 0));
        Check.due(Check.INDEX, () -> room.trap(4, 0));
        Check.due(Check.ARGUMENT, () -> room.trap(0, 0));
        Check.due(Check.INDEX, () -> room.trapped(0, 48, 0));
        Check.due(Check.INDEX, () -> room.screen(8, 0, 0, 3));
        Check.due(Check.INDEX, () -> room.rank(8, 1001, 0));
        Check.due(Check.INDEX, () -> room.dot(0, 0, 0, 64));
        Check.due(Check.INDEX, () -> room.share(0, -1, 0, 0));
        Check.due(Check.INDEX, () -> room.proof(0, -1, 0));
        Check.due(Check.STATE, () -> room.slot(-1, 0, 0, 0));
        Check.due(Check.STATE, () -> room.read(0, 2));
    }

    /** "The constants: NONE = -1: Nothing there." */
    private static void nothingThere() {
        Check.due(-1, () -> PrePressRoom.NONE);
        PrePressRoom room = new PrePressRoom();
        room.separate(0);
        Check.due(PrePressRoom.NONE, () -> room.share(0, 0, 0, 0));
    }
}
