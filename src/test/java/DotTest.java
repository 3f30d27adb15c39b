/** Promises 12, 13 and 14: dot, share and proof. */
final class DotTest {
    public static void main(String[] args) {
        amounts();
        screensOfNow();
        shares();
        sharesAtTheEdges();
        sharesOfMixedCells();
        fullCellsByShape();
        proofs();
        wrongInputs();
        Check.end();
    }

    private static PrePressRoom roomOf(int ink, int v) {
        PrePressRoom room = new PrePressRoom();
        room.colour(0, ink, v);
        room.separate(0);
        return room;
    }

    private static int dots(PrePressRoom room, int ink, int wide, int high) {
        int dots = 0;
        for (int y = 0; y < high; y++) {
            for (int x = 0; x < wide; x++) {
                dots += room.dot(0, ink, x, y) ? 1 : 0;
            }
        }
        return dots;
    }

    /** Of 16 places (v * 16 + 127) / 255 are printed: one at 8, none at 7. */
    private static void amounts() {
        int[][] due = {{0, 0}, {7, 0}, {8, 1}, {23, 1}, {24, 2}, {128, 8}, {247, 15}, {248, 16}, {255, 16}};
        for (int[] row : due) {
            Check.due(row[1], () -> dots(roomOf(1, row[0]), 1, 4, 4));
            Check.due(row[1] * 12, () -> dots(roomOf(7, row[0]), 7, 48, 4));
        }
        PrePressRoom room = roomOf(0, 24);
        Check.due(true, () -> room.dot(0, 0, 0, 0));
        Check.due(true, () -> room.dot(0, 0, 0, 3));
        Check.due(false, () -> room.dot(0, 0, 3, 0));
        Check.due(true, () -> room.dot(0, 0, 44, 63));
    }

    private static void screensOfNow() {
        PrePressRoom room = roomOf(2, 127);
        Check.due(false, () -> room.dot(0, 2, 2, 2));
        room.screen(2, 1, 0, 0);
        Check.due(false, () -> room.dot(0, 2, 2, 2));
        Check.due(0, () -> room.share(0, 2, 2, 2));
        room.colour(0, 2, 128);
        Check.due(false, () -> room.dot(0, 2, 2, 2));
        room.separate(0);
        Check.due(true, () -> room.dot(0, 2, 2, 2));
        Check.due(1, () -> room.share(0, 2, 2, 2));
        room.screen(2, 20, 0, 0);
        Check.due(201, () -> room.share(0, 2, 20, 20));
    }

    /** The hearts of a 4, b 0 are -1 .. 1 and one of -2 and 2, both ways: (-2, y) and (x, -2). */
    private static void shares() {
        PrePressRoom room = roomOf(0, 100);
        Check.due(-1, () -> room.share(0, 0, 0, 0));
        Check.due(-1, () -> room.share(0, 0, 1, 10));
        Check.due(-1, () -> room.share(0, 0, 10, 1));
        Check.due(6, () -> room.share(0, 0, 2, 2));
        Check.due(6, () -> room.share(0, 0, 5, 5));
        Check.due(6, () -> room.share(0, 0, 45, 61));
        Check.due(-1, () -> room.share(0, 0, 46, 30));
        Check.due(-1, () -> room.share(0, 0, 30, 62));
        Check.due(-1, () -> room.share(0, 0, 47, 63));
    }

    /** With a 2, b 1 a full cell is a place of the lattice and the four beside it. */
    private static void sharesAtTheEdges() {
        PrePressRoom room = roomOf(0, 255);
        room.screen(0, 2, 1, 0);
        int[][] within = {{1, 3}, {2, 1}, {46, 3}, {4, 62}, {0, 3}, {2, 0}, {47, 3}, {4, 63}};
        for (int[] xy : within) {
            Check.due(5, () -> room.share(0, 0, xy[0], xy[1]));
        }
        int[][] beyond = {{0, 0}, {0, 5}, {5, 0}, {47, 6}, {6, 63}, {1, 5}, {5, 1}, {46, 6}, {6, 62}};
        for (int[] xy : beyond) {
            Check.due(-1, () -> room.share(0, 0, xy[0], xy[1]));
        }
    }

    /** Cells of two colours in one full cell: the one at 2 .. 5 across and down. */
    private static void sharesOfMixedCells() {
        PrePressRoom room = new PrePressRoom();
        room.colour(1, 3, 255);
        room.box(0, 0, 0, 4, 64, 1);
        room.separate(0);
        Check.due(8, () -> room.share(0, 3, 4, 4));
        Check.due(8, () -> room.share(0, 3, 2, 5));
        Check.due(0, () -> room.share(0, 3, 6, 4));
        room.colour(2, 2, 255);
        room.box(0, 4, 0, 44, 64, 2);
        room.separate(0);
        Check.due(8, () -> room.share(0, 2, 4, 4));
        room.trap(0, 1);
        Check.due(12, () -> room.share(0, 2, 4, 4));
        Check.due(8, () -> room.share(0, 3, 4, 4));
        Check.due(true, () -> room.dot(0, 2, 3, 4));
        Check.due(false, () -> room.dot(0, 2, 2, 4));
        Check.due(12, () -> room.proof(0, 3, 4));
        Check.due(8, () -> room.proof(0, 2, 4));
    }

    /**
     * With a 10, b 5 the places 5, -3 and 0, 7 are of one class; the first is nearer, but the second
     * is so by the amounts of x and y. The full cell is the one moved by 25, 25.
     */
    private static void fullCellsByShape() {
        int[][] due = {{0, 1, 0}, {1, 1, 0}, {2, 0, 1}};
        for (int[] row : due) {
            PrePressRoom room = new PrePressRoom();
            room.colour(1, 5, 255);
            room.screen(5, 10, 5, row[0]);
            room.box(0, 30, 22, 1, 1, 1);
            room.box(1, 25, 32, 1, 1, 1);
            room.separate(0);
            room.separate(1);
            Check.due(row[1], () -> room.share(0, 5, 25, 25));
            Check.due(row[2], () -> room.share(1, 5, 25, 25));
        }
    }

    private static void proofs() {
        PrePressRoom room = new PrePressRoom();
        room.separate(0);
        Check.due(0, () -> room.proof(0, 0, 0));
        for (int ink = 0; ink < 5; ink++) {
            room.colour(1, ink, 8);
        }
        room.colour(2, 7, 255);
        room.box(0, 0, 0, 8, 8, 1);
        room.box(0, 8, 0, 8, 8, 2);
        room.separate(0);
        Check.due(31, () -> room.proof(0, 4, 4));
        Check.due(0, () -> room.proof(0, 5, 4));
        Check.due(128, () -> room.proof(0, 9, 3));
        room.screen(2, 20, 0, 0);
        Check.due(31 - 4, () -> room.proof(0, 4, 4));
        Check.due(31, () -> room.proof(0, 0, 0));
    }

    private static void wrongInputs() {
        PrePressRoom room = new PrePressRoom();
        room.separate(0);
        for (int page : new int[] {-1, 4, Integer.MIN_VALUE, Integer.MAX_VALUE}) {
            Check.due(Check.INDEX, () -> room.dot(page, 0, 0, 0));
            Check.due(Check.INDEX, () -> room.share(page, 0, 0, 0));
            Check.due(Check.INDEX, () -> room.proof(page, 0, 0));
        }
        for (int page = 0; page < 2; page++) {
            int p = page;
            for (int ink : new int[] {-1, 8, Integer.MIN_VALUE, Integer.MAX_VALUE}) {
                Check.due(Check.INDEX, () -> room.dot(p, ink, 0, 0));
                Check.due(Check.INDEX, () -> room.share(p, ink, 0, 0));
            }
            int[][] off = {{-1, 0}, {48, 0}, {0, -1}, {0, 64}, {Integer.MIN_VALUE, 0}, {0, Integer.MAX_VALUE}};
            for (int[] xy : off) {
                Check.due(Check.INDEX, () -> room.dot(p, 0, xy[0], xy[1]));
                Check.due(Check.INDEX, () -> room.share(p, 0, xy[0], xy[1]));
                Check.due(Check.INDEX, () -> room.proof(p, xy[0], xy[1]));
            }
        }
        Check.due(Check.STATE, () -> room.dot(1, 7, 47, 63));
        Check.due(Check.STATE, () -> room.share(1, 7, 47, 63));
        Check.due(Check.STATE, () -> room.proof(1, 47, 63));
        Check.due(false, () -> room.dot(0, 7, 47, 63));
        Check.due(-1, () -> room.share(0, 7, 47, 63));
        Check.due(0, () -> room.proof(0, 47, 63));
    }
}
