/** Promises 10 and 11: screen and rank. */
final class ScreenTest {
    public static void main(String[] args) {
        roundHearts();
        lineHearts();
        diamondHearts();
        signs();
        everyRankOnce();
        anInkHasItsOwn();
        wrongInputs();
        Check.end();
    }

    private static void ranks(PrePressRoom room, int ink, int y, int... due) {
        for (int x = 0; x < due.length; x++) {
            int at = x;
            Check.due(due[x], () -> room.rank(ink, at, y));
        }
    }

    /** With a 3 and b 0 the hearts are the nine places round 0, 0: by distance, then y, then x. */
    private static void roundHearts() {
        PrePressRoom room = new PrePressRoom();
        Check.due(9, () -> room.screen(0, 3, 0, 0));
        ranks(room, 0, -1, 1, 6, 5, 1, 6, 5);
        ranks(room, 0, 0, 0, 3, 2, 0, 3, 2);
        ranks(room, 0, 1, 4, 8, 7, 4, 8, 7);
        ranks(room, 0, 999, 0, 3, 2);
        ranks(room, 0, -1000, 1, 6, 5);
        Check.due(2, () -> room.screen(0, 1, 1, 0));
        ranks(room, 0, 0, 0, 1, 0, 1);
        ranks(room, 0, 1, 1, 0, 1, 0);
    }

    /** Lines along a, b: a * y - b * x is the form, and then the distance counts. */
    private static void lineHearts() {
        PrePressRoom room = new PrePressRoom();
        Check.due(9, () -> room.screen(7, 3, 0, 1));
        ranks(room, 7, 0, 0, 2, 1);
        ranks(room, 7, -1, 3, 6, 5);
        ranks(room, 7, 1, 4, 8, 7);
        Check.due(9, () -> room.screen(7, 0, 3, 1));
        ranks(room, 7, 0, 0, 4, 3);
        ranks(room, 7, -1, 1, 6, 5);
        ranks(room, 7, 1, 2, 8, 7);
        // Slanted lines: 1, 1 lies nearer to the line along 3, 1 than -1, 1.
        Check.due(10, () -> room.screen(7, 3, 1, 1));
        int[][] byRank = {{0, 0}, {-1, 0}, {1, 0}, {-1, -1}, {1, 1}, {0, -1}, {0, 1}, {1, -1}, {-1, 1}, {-1, -2}};
        for (int rank = 0; rank < byRank.length; rank++) {
            int[] xy = byRank[rank];
            Check.due(rank, () -> room.rank(7, xy[0], xy[1]));
            Check.due(rank, () -> room.rank(7, xy[0] + 2, xy[1] + 4));
        }
    }

    /** With a 5 the hearts are -2 .. 2 both ways: 1, 1 comes before 2, 0, but 2, 0 before 2, 1. */
    private static void diamondHearts() {
        PrePressRoom room = new PrePressRoom();
        Check.due(25, () -> room.screen(3, 5, 0, 2));
        ranks(room, 3, -2, 9, 14, 22, 21, 13);
        ranks(room, 3, -1, 1, 6, 16, 15, 5);
        ranks(room, 3, 0, 0, 3, 11, 10, 2);
        ranks(room, 3, 1, 4, 8, 18, 17, 7);
        ranks(room, 3, 2, 12, 20, 24, 23, 19);
    }

    /** The lattice of a, b is that of -b, a, too; only lines go another way. */
    private static void signs() {
        PrePressRoom room = new PrePressRoom();
        for (int shape = 0; shape < 3; shape += 2) {
            int s = shape;
            Check.due(29, () -> room.screen(0, 5, 2, s));
            Check.due(29, () -> room.screen(1, -2, 5, s));
            Check.due(29, () -> room.screen(2, -5, -2, s));
            for (int x = -29; x < 30; x++) {
                int at = x;
                Check.due(room.rank(0, at, 3), () -> room.rank(1, at, 3));
                Check.due(room.rank(0, at, 3), () -> room.rank(2, at, 3));
            }
        }
        Check.due(1, () -> room.screen(0, 0, -1, 2));
        Check.due(0, () -> room.rank(0, 777, -998));
    }

    /** Each rank of 0 .. N - 1 is there N times among N rows of N places. A room for each row keeps to 512 calls. */
    private static void everyRankOnce() {
        int[][] lattices = {{20, 0}, {0, -20}, {12, 16}, {-16, 12}, {14, 14}, {7, 3}, {6, 4}, {-9, 9}, {1, 0}, {19, 6}};
        for (int[] ab : lattices) {
            for (int shape = 0; shape < 3; shape++) {
                int n = ab[0] * ab[0] + ab[1] * ab[1];
                int[] seen = new int[n];
                for (int y = 0; y < n; y++) {
                    PrePressRoom room = new PrePressRoom();
                    room.screen(5, ab[0], ab[1], shape);
                    for (int x = 0; x < n; x++) {
                        seen[room.rank(5, x, y)]++;
                    }
                    Check.due(0, () -> room.rank(5, 2 * ab[0] + 3 * ab[1], 2 * ab[1] - 3 * ab[0]));
                }
                for (int rank = 0; rank < n; rank++) {
                    int r = rank;
                    Check.due(n, () -> seen[r]);
                }
            }
        }
    }

    private static void anInkHasItsOwn() {
        PrePressRoom room = new PrePressRoom();
        room.screen(6, 1, 0, 0);
        Check.due(0, () -> room.rank(6, 1, 0));
        Check.due(3, () -> room.rank(5, 1, 0));
        Check.due(3, () -> room.rank(7, 1, 0));
    }

    private static void wrongInputs() {
        PrePressRoom room = new PrePressRoom();
        for (int ink : new int[] {-1, 8, Integer.MIN_VALUE, Integer.MAX_VALUE}) {
            Check.due(Check.INDEX, () -> room.screen(ink, 1, 1, 0));
            Check.due(Check.INDEX, () -> room.screen(ink, 0, 0, 3));
            Check.due(Check.INDEX, () -> room.rank(ink, 0, 0));
            Check.due(Check.INDEX, () -> room.rank(ink, 1001, 0));
        }
        for (int off : new int[] {-21, 21, 65536, Integer.MIN_VALUE, Integer.MAX_VALUE}) {
            Check.due(Check.ARGUMENT, () -> room.screen(0, off, 1, 0));
            Check.due(Check.ARGUMENT, () -> room.screen(0, 1, off, 0));
        }
        Check.due(Check.ARGUMENT, () -> room.screen(0, 0, 0, 0));
        Check.due(Check.ARGUMENT, () -> room.screen(0, 20, 1, 0));
        Check.due(Check.ARGUMENT, () -> room.screen(0, -1, -20, 0));
        Check.due(Check.ARGUMENT, () -> room.screen(0, 15, 14, 0));
        for (int shape : new int[] {-1, 3, Integer.MIN_VALUE, Integer.MAX_VALUE}) {
            Check.due(Check.ARGUMENT, () -> room.screen(0, 1, 1, shape));
        }
        for (int off : new int[] {-1001, 1001, Integer.MIN_VALUE, Integer.MAX_VALUE}) {
            Check.due(Check.ARGUMENT, () -> room.rank(0, off, 0));
            Check.due(Check.ARGUMENT, () -> room.rank(0, 0, off));
        }
        Check.due(0, () -> room.rank(0, -1000, 1000));
        Check.due(0, () -> room.rank(0, 1000, -1000));
        Check.due(400, () -> room.screen(0, -20, 0, 2));
        Check.due(400, () -> room.screen(0, 0, 20, 1));
        Check.due(400, () -> room.screen(0, -12, 16, 0));
    }
}
