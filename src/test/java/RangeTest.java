/** Promises 2 to 17: each number that a call takes, at the last value that is allowed and at the first that is not. */
final class RangeTest {
    private static final String INDEX = Check.INDEX;
    private static final String ARGUMENT = Check.ARGUMENT;

    public static void main(String[] args) {
        colour();
        boxNumbers();
        boxOnThePage();
        boxThatWrapsRound();
        cell();
        grey();
        separateAndTrap();
        callsOfAPlate();
        callsOfACell();
        screen();
        latticeSizes();
        rank();
        impose();
        pagesOfSheets();
        slotAndRead();
        Check.end();
    }

    private static PrePressRoom roomOfJobs() {
        PrePressRoom room = new PrePressRoom();
        for (int page = 0; page < 4; page++) {
            room.separate(page);
        }
        return room;
    }

    /** Promise 2: "when there is no such colour or ink", "when it is not 0 .. 255". */
    private static void colour() {
        Check.ends(0, 63, INDEX, c -> new PrePressRoom().colour(c, 0, 255));
        Check.ends(0, 7, INDEX, ink -> new PrePressRoom().colour(0, ink, 255));
        for (int ink = 0; ink < 8; ink++) {
            int i = ink;
            Check.ends(0, 255, ARGUMENT, v -> new PrePressRoom().colour(63, i, v));
        }
    }

    /** Promise 3: "when there is no such page or colour", "when w or h is below 1". */
    private static void boxNumbers() {
        PrePressRoom room = new PrePressRoom();
        Check.ends(0, 3, INDEX, page -> room.box(page, 0, 0, 1, 1, 0));
        Check.ends(0, 63, INDEX, c -> room.box(0, 0, 0, 1, 1, c));
        Check.ends(1, 48, ARGUMENT, w -> room.box(0, 0, 0, w, 1, 0));
        Check.ends(1, 64, ARGUMENT, h -> room.box(0, 0, 0, 1, h, 0));
        Check.ends(0, 47, ARGUMENT, x -> room.box(0, x, 0, 1, 1, 0));
        Check.ends(0, 63, ARGUMENT, y -> room.box(0, 0, y, 1, 1, 0));
    }

    /** Promise 3: "or it is not all on the page". */
    private static void boxOnThePage() {
        PrePressRoom wide = new PrePressRoom();
        for (int left = 0; left < 48; left++) {
            int x = left;
            Check.ends(1, 48 - x, ARGUMENT, w -> wide.box(0, x, 63, w, 1, 1));
        }
        PrePressRoom high = new PrePressRoom();
        for (int top = 0; top < 64; top++) {
            int y = top;
            Check.ends(1, 64 - y, ARGUMENT, h -> high.box(0, 47, y, 1, h, 1));
        }
        PrePressRoom moved = new PrePressRoom();
        Check.ends(0, 0, ARGUMENT, x -> moved.box(0, x, 0, 48, 64, 1));
        Check.ends(0, 0, ARGUMENT, y -> moved.box(0, 0, y, 48, 64, 1));
        Check.ends(0, 38, ARGUMENT, x -> moved.box(0, x, 0, 10, 10, 1));
        Check.ends(0, 54, ARGUMENT, y -> moved.box(0, 0, y, 10, 10, 1));
    }

    /** Promise 3: sums of a place and a length that come round to a number that would fit. */
    private static void boxThatWrapsRound() {
        PrePressRoom room = new PrePressRoom();
        int low = Integer.MIN_VALUE;
        int high = Integer.MAX_VALUE;
        int[][] spans = {{high, high}, {low, low}, {high, 2}, {2, high}, {low, high}, {high, low}, {-1, 2}, {-10, 20}, {48, -1}};
        for (int[] span : spans) {
            Check.due(ARGUMENT, () -> room.box(0, span[0], 0, span[1], 1, 5));
            Check.due(ARGUMENT, () -> room.box(0, 0, span[0], 1, span[1], 5));
            Check.due(ARGUMENT, () -> room.box(0, span[0], span[0], span[1], span[1], 5));
        }
        Check.due(0, () -> room.box(0, 0, 0, 48, 64, 0));
    }

    /** Promise 4. */
    private static void cell() {
        PrePressRoom room = new PrePressRoom();
        Check.ends(0, 3, INDEX, page -> room.cell(page, 47, 63));
        Check.ends(0, 47, INDEX, x -> room.cell(3, x, 63));
        Check.ends(0, 63, INDEX, y -> room.cell(3, 47, y));
    }

    /** Promise 5, and "a SHARE (0 .. 100) and a LIMIT (200 .. 1020)". */
    private static void grey() {
        PrePressRoom room = new PrePressRoom();
        Check.ends(0, 100, ARGUMENT, share -> greyed(room, share, 200));
        Check.ends(0, 100, ARGUMENT, share -> greyed(room, share, 1020));
        Check.ends(200, 1020, ARGUMENT, limit -> greyed(room, 0, limit));
        Check.ends(200, 1020, ARGUMENT, limit -> greyed(room, 100, limit));
    }

    private static Object greyed(PrePressRoom room, int share, int limit) {
        room.grey(share, limit);
        return Check.DONE;
    }

    /** Promises 6 and 8, and "a WIDTH (1 .. 3)". */
    private static void separateAndTrap() {
        PrePressRoom room = new PrePressRoom();
        Check.ends(0, 3, INDEX, page -> room.separate(page));
        Check.ends(0, 3, INDEX, page -> roomOfJobs().trap(page, 1));
        for (int page = 0; page < 4; page++) {
            int p = page;
            Check.ends(1, 3, ARGUMENT, width -> roomOfJobs().trap(p, width));
        }
    }

    /** Promises 7, 12 and 13: "no such page, ink or cell". */
    private static void callsOfAPlate() {
        PrePressRoom room = roomOfJobs();
        Check.ends(0, 3, INDEX, page -> room.plate(page, 7, 47, 63));
        Check.ends(0, 7, INDEX, ink -> room.plate(3, ink, 47, 63));
        Check.ends(0, 47, INDEX, x -> room.plate(3, 7, x, 63));
        Check.ends(0, 63, INDEX, y -> room.plate(3, 7, 47, y));
        Check.ends(0, 3, INDEX, page -> room.dot(page, 7, 47, 63));
        Check.ends(0, 7, INDEX, ink -> room.dot(3, ink, 47, 63));
        Check.ends(0, 47, INDEX, x -> room.dot(3, 7, x, 63));
        Check.ends(0, 63, INDEX, y -> room.dot(3, 7, 47, y));
        Check.ends(0, 3, INDEX, page -> room.share(page, 7, 47, 63));
        Check.ends(0, 7, INDEX, ink -> room.share(3, ink, 47, 63));
        Check.ends(0, 47, INDEX, x -> room.share(3, 7, x, 63));
        Check.ends(0, 63, INDEX, y -> room.share(3, 7, 47, y));
    }

    /** Promises 9 and 14: "no such page or cell". */
    private static void callsOfACell() {
        PrePressRoom room = roomOfJobs();
        Check.ends(0, 3, INDEX, page -> room.trapped(page, 47, 63));
        Check.ends(0, 47, INDEX, x -> room.trapped(3, x, 63));
        Check.ends(0, 63, INDEX, y -> room.trapped(3, 47, y));
        Check.ends(0, 3, INDEX, page -> room.proof(page, 47, 63));
        Check.ends(0, 47, INDEX, x -> room.proof(3, x, 63));
        Check.ends(0, 63, INDEX, y -> room.proof(3, 47, y));
    }

    /** Promise 10: "no such ink", "a or b is not -20 .. 20", "the shape is not 0 .. 2". */
    private static void screen() {
        PrePressRoom room = new PrePressRoom();
        Check.ends(0, 7, INDEX, ink -> room.screen(ink, 20, 0, 2));
        Check.ends(-20, 20, ARGUMENT, a -> room.screen(7, a, 0, 0));
        Check.ends(-20, 20, ARGUMENT, b -> room.screen(7, 0, b, 0));
        Check.ends(0, 2, ARGUMENT, shape -> room.screen(7, 20, 0, shape));
        Check.ends(0, 2, ARGUMENT, shape -> room.screen(7, 0, -1, shape));
        // Squares of these come round to 0 or to small numbers.
        for (int odd : new int[] {1 << 16, -(1 << 16), 1 << 30, (1 << 16) + 1, 1 << 31}) {
            Check.due(ARGUMENT, () -> room.screen(7, odd, 1, 0));
            Check.due(ARGUMENT, () -> room.screen(7, 1, odd, 0));
            Check.due(ARGUMENT, () -> room.screen(7, odd, odd, 0));
        }
    }

    /** Promise 10: "N is 0 or above 400". */
    private static void latticeSizes() {
        for (int a = -20; a <= 20; a++) {
            PrePressRoom room = new PrePressRoom();
            for (int b = -20; b <= 20; b++) {
                int n = a * a + b * b;
                int over = a;
                int down = b;
                Check.due(n >= 1 && n <= 400 ? n : ARGUMENT, () -> room.screen(0, over, down, 2));
            }
        }
    }

    /** Promise 11: "x or y is not -1000 .. 1000". */
    private static void rank() {
        PrePressRoom room = new PrePressRoom();
        room.screen(7, -19, 6, 1);
        Check.ends(0, 7, INDEX, ink -> room.rank(ink, 1000, -1000));
        Check.ends(-1000, 1000, ARGUMENT, x -> room.rank(7, x, 1000));
        Check.ends(-1000, 1000, ARGUMENT, y -> room.rank(7, -1000, y));
    }

    /** Promise 15: "folds are not 1 .. 4, creep is not 0 .. 1000". */
    private static void impose() {
        PrePressRoom room = new PrePressRoom();
        Check.ends(1, 4, ARGUMENT, folds -> room.impose(64, folds, 0));
        for (int folds = 1; folds <= 4; folds++) {
            int f = folds;
            Check.ends(0, 1000, ARGUMENT, creep -> room.impose(64, f, creep));
        }
        // Shifts by these come round to those of 1 .. 4 folds.
        for (int odd : new int[] {33, 34, 36, -31, -28}) {
            Check.due(ARGUMENT, () -> room.impose(64, odd, 0));
        }
    }

    /** Promise 15: "pages are not 1 to 64 times the pages of a sheet, or above 64". */
    private static void pagesOfSheets() {
        PrePressRoom room = new PrePressRoom();
        int[] ofSheet = {0, 4, 8, 16, 32};
        for (int folds = 1; folds <= 4; folds++) {
            int f = folds;
            int one = ofSheet[f];
            Check.ends(one, 64, ARGUMENT, pages -> room.impose(pages, f, 1));
            Check.due(1, () -> room.impose(one, f, 1));
            Check.due(64 / one, () -> room.impose(64, f, 1));
            for (int pages : new int[] {0, -one, one / 2, one + one / 2, 64 - one / 2, 64 + one, 64 * one, 65 * one}) {
                Check.due(ARGUMENT, () -> room.impose(pages, f, 1));
            }
            Check.due(2, () -> room.impose(2 * one, f, 1));
        }
    }

    /** Promises 16 and 17: "no such sheet, side, slot or what", "no such k or what". */
    private static void slotAndRead() {
        int[] leaves = {0, 2, 4, 8, 16};
        for (int folds = 1; folds <= 4; folds++) {
            int slots = leaves[folds];
            for (int count = 1; count <= 64 / (2 * slots); count++) {
                int last = count - 1;
                PrePressRoom room = new PrePressRoom();
                room.impose(count * 2 * slots, folds, 1000);
                Check.ends(0, last, INDEX, sheet -> room.slot(sheet, 1, slots - 1, 0));
                Check.ends(0, 1, INDEX, side -> room.slot(last, side, slots - 1, 0));
                Check.ends(0, slots - 1, INDEX, slot -> room.slot(last, 1, slot, 0));
                Check.ends(0, 2, INDEX, what -> room.slot(last, 1, slots - 1, what));
                Check.ends(0, 2 * slots - 1, INDEX, k -> room.read(k, 0));
                Check.ends(0, 2 * slots - 1, INDEX, k -> room.read(k, 1));
                Check.ends(0, 1, INDEX, what -> room.read(2 * slots - 1, what));
            }
        }
    }
}
