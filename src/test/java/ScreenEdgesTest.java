/** Terms, and promises 10 to 14: the boundary cases of lattices, hearts, ranks, dots and full cells. */
final class ScreenEdgesTest {
    public static void main(String[] args) {
        leastAndGreatestLattices();
        placesOfOneClass();
        formBeforeDistance();
        equalFormsInAClass();
        equalFormsOfHearts();
        farPlaces();
        rankBelowTheShare();
        dotsOfAmounts();
        fullCellsOnThePage();
        fullCellOfOnePlace();
        noDotsIsNotNone();
        screensOfJobsMadeBefore();
        proofOfNoneAndMany();
        Check.end();
    }

    /** Of N 1 all places are of one class; of N 400 rank 399 is the farthest heart. */
    private static void leastAndGreatestLattices() {
        PrePressRoom room = new PrePressRoom();
        int[][] ones = {{1, 0}, {-1, 0}, {0, 1}, {0, -1}};
        int[][] greatest = {{20, 0}, {-20, 0}, {0, 20}, {0, -20}};
        for (int shape = 0; shape < 3; shape++) {
            int s = shape;
            for (int[] ab : ones) {
                Check.due(1, () -> room.screen(0, ab[0], ab[1], s));
                Check.due(0, () -> room.rank(0, 1000, -1000));
                Check.due(0, () -> room.rank(0, -1, 1));
            }
            for (int[] ab : greatest) {
                Check.due(400, () -> room.screen(0, ab[0], ab[1], s));
                Check.due(0, () -> room.rank(0, 1000, -1000));
                Check.due(399, () -> room.rank(0, -10, -10));
                Check.due(399, () -> room.rank(0, 10, 10));
            }
        }
    }

    /** "Two places are of one CLASS, if their difference is of the lattice". */
    private static void placesOfOneClass() {
        int[][] lattices = {{3, 1}, {-3, 1}, {3, -1}, {-1, -3}, {6, 4}, {12, 16}};
        for (int[] ab : lattices) {
            int a = ab[0];
            int b = ab[1];
            PrePressRoom room = new PrePressRoom();
            room.screen(4, a, b, 0);
            int own = room.rank(4, 5, 7);
            Check.due(own, () -> room.rank(4, 5 + a, 7 + b));
            Check.due(own, () -> room.rank(4, 5 - b, 7 + a));
            Check.due(own, () -> room.rank(4, 5 + a * a + b * b, 7));
            Check.due(false, () -> room.rank(4, 5 + a + 1, 7 + b) == own);
            Check.due(false, () -> room.rank(4, 5 + a, 7 + b - 1) == own);
            Check.due(false, () -> room.rank(4, 5 + b, 7 + a) == own);
        }
    }

    /** Whether a place is the heart of its class: 1, when the full cell moved by N steps has it. */
    private static int isHeart(int a, int b, int shape, int x, int y) {
        PrePressRoom room = Rooms.with(Rooms.row(1, 5, 255));
        int n = room.screen(5, a, b, shape);
        int moveX = 24 / n * n;
        int moveY = 32 / n * n;
        room.box(0, moveX + x, moveY + y, 1, 1, 1);
        room.separate(0);
        return room.share(0, 5, moveX, moveY);
    }

    private static void heart(int a, int b, int shape, int[] heart, int[] other) {
        Check.due(1, () -> isHeart(a, b, shape, heart[0], heart[1]));
        Check.due(0, () -> isHeart(a, b, shape, other[0], other[1]));
    }

    /** "its place with the least form": the amounts of x and y may be less though it is farther away. */
    private static void formBeforeDistance() {
        int[][] due = {{0, 1, 0}, {1, 1, 0}, {2, 0, 1}};
        for (int[] of : due) {
            PrePressRoom room = Rooms.with(Rooms.row(1, 5, 255));
            room.screen(5, 10, 5, of[0]);
            room.box(0, 30, 22, 1, 1, 1);
            room.box(1, 25, 32, 1, 1, 1);
            room.separate(0);
            room.separate(1);
            Check.due(of[1], () -> room.share(0, 5, 25, 25));
            Check.due(of[2], () -> room.share(1, 5, 25, 25));
        }
    }

    /** "of equal ones the least x * x + y * y, then the least y, then the least x". */
    private static void equalFormsInAClass() {
        heart(3, 1, 2, new int[] {-1, 1}, new int[] {0, -2});
        heart(3, 1, 2, new int[] {1, 1}, new int[] {-2, 0});
        heart(1, 3, 2, new int[] {-1, 1}, new int[] {2, 0});
        heart(2, 4, 2, new int[] {2, 1}, new int[] {0, -3});
        for (int shape = 0; shape < 3; shape++) {
            heart(2, 2, shape, new int[] {1, -1}, new int[] {-1, 1});
            heart(2, 2, shape, new int[] {0, -2}, new int[] {-2, 0});
            heart(2, 0, shape, new int[] {0, -1}, new int[] {0, 1});
            heart(2, 0, shape, new int[] {-1, 0}, new int[] {1, 0});
            heart(4, 0, shape, new int[] {-2, -2}, new int[] {2, -2});
            heart(4, 0, shape, new int[] {-2, -1}, new int[] {2, -1});
            heart(0, 4, shape, new int[] {-1, -2}, new int[] {-1, 2});
        }
    }

    /** The ranks of these places, one after another, from a rank on. */
    private static void ranks(PrePressRoom room, int first, int[]... places) {
        for (int i = 0; i < places.length; i++) {
            int[] at = places[i];
            Check.due(first + i, () -> room.rank(0, at[0], at[1]));
        }
    }

    /** "of equal ones as among hearts". */
    private static void equalFormsOfHearts() {
        PrePressRoom room = new PrePressRoom();
        room.screen(0, 5, 0, 0);
        ranks(room, 0, new int[] {0, 0}, new int[] {0, -1}, new int[] {-1, 0}, new int[] {1, 0}, new int[] {0, 1},
            new int[] {-1, -1}, new int[] {1, -1}, new int[] {-1, 1}, new int[] {1, 1}, new int[] {0, -2});
        room.screen(0, 5, 0, 2);
        ranks(room, 5, new int[] {-1, -1}, new int[] {1, -1}, new int[] {-1, 1}, new int[] {1, 1}, new int[] {0, -2},
            new int[] {-2, 0}, new int[] {2, 0}, new int[] {0, 2}, new int[] {-1, -2}, new int[] {1, -2});
        room.screen(0, 5, 0, 1);
        ranks(room, 0, new int[] {0, 0}, new int[] {-1, 0}, new int[] {1, 0}, new int[] {-2, 0}, new int[] {2, 0},
            new int[] {0, -1}, new int[] {0, 1}, new int[] {-1, -1}, new int[] {1, -1}, new int[] {-1, 1});
        // Along 0, 5 the amount is that of x, and among equal ones y comes before x.
        room.screen(0, 0, -5, 1);
        ranks(room, 0, new int[] {0, 0}, new int[] {0, -1}, new int[] {0, 1}, new int[] {0, -2}, new int[] {0, 2},
            new int[] {-1, 0}, new int[] {1, 0}, new int[] {-1, -1}, new int[] {1, -1}, new int[] {-1, 1});
        // A slanted line goes along a, b: 1, 1 is nearer to it than 0, -1 when both are above 0.
        room.screen(0, 3, 2, 1);
        ranks(room, 0, new int[] {0, 0}, new int[] {-1, -1}, new int[] {1, 1}, new int[] {-1, 0}, new int[] {1, 0});
        room.screen(0, 3, -2, 1);
        ranks(room, 0, new int[] {0, 0}, new int[] {1, -1}, new int[] {-1, 1}, new int[] {-1, 0}, new int[] {1, 0});
    }

    /** Places below 0 and far away go on as those near by. */
    private static void farPlaces() {
        int[][] lattices = {{7, 3}, {-3, 7}, {20, 0}, {12, -16}, {5, 5}};
        for (int[] ab : lattices) {
            PrePressRoom room = new PrePressRoom();
            int n = room.screen(1, ab[0], ab[1], 1);
            int far = 900 / n * n;
            for (int x = 0; x < 6; x++) {
                int near = room.rank(1, x, -x);
                int at = x;
                Check.due(near, () -> room.rank(1, at - far, -at + far));
                Check.due(near, () -> room.rank(1, at + far, -at - far));
                Check.due(near, () -> room.rank(1, at - n, -at));
            }
        }
    }

    /** "if the rank of its place is below (v * N + 127) / 255": of 24 and N 16 that is 2. */
    private static void rankBelowTheShare() {
        PrePressRoom room = Rooms.with(Rooms.row(0, 0, 24));
        room.separate(0);
        Check.due(1, () -> room.rank(0, 0, 3));
        Check.due(2, () -> room.rank(0, 3, 0));
        Check.due(true, () -> room.dot(0, 0, 0, 0));
        Check.due(true, () -> room.dot(0, 0, 0, 3));
        Check.due(false, () -> room.dot(0, 0, 3, 0));
        room.screen(0, 1, 0, 0);
        Check.due(false, () -> room.dot(0, 0, 0, 0));
    }

    /** The amounts at which one dot more is printed, for the least lattice, the greatest and some between. */
    private static void dotsOfAmounts() {
        int[][] due = {
            {1, 0, 0, 0}, {1, 0, 127, 0}, {1, 0, 128, 1}, {1, 0, 255, 1},
            {1, 1, 63, 0}, {1, 1, 64, 1}, {1, 1, 191, 1}, {1, 1, 192, 2}, {1, 1, 255, 2},
            {4, 0, 0, 0}, {4, 0, 7, 0}, {4, 0, 8, 1}, {4, 0, 23, 1}, {4, 0, 24, 2}, {4, 0, 247, 15}, {4, 0, 248, 16},
            {4, 0, 255, 16}, {-2, 3, 9, 0}, {-2, 3, 10, 1}, {-2, 3, 245, 12}, {-2, 3, 246, 13},
            {20, 0, 0, 0}, {20, 0, 1, 2}, {20, 0, 2, 3}, {20, 0, 254, 398}, {20, 0, 255, 400}};
        for (int[] of : due) {
            for (int shape = 0; shape < 3; shape++) {
                PrePressRoom room = Rooms.with(Rooms.row(0, 7, of[2]));
                room.screen(7, of[0], of[1], shape);
                room.separate(0);
                Check.due(of[3], () -> room.share(0, 7, 20, 20));
            }
        }
    }

    /** "NONE when not all of it is on the page": of N 400 the full cells start at -10, 10, 30 and 50. */
    private static void fullCellsOnThePage() {
        PrePressRoom room = Rooms.with(Rooms.row(0, 0, 255));
        room.screen(0, 20, 0, 0);
        room.separate(0);
        int[][] due = {{0, 20, -1}, {9, 20, -1}, {10, 20, 400}, {29, 20, 400}, {30, 20, -1}, {47, 20, -1},
            {20, 0, -1}, {20, 9, -1}, {20, 10, 400}, {20, 49, 400}, {20, 50, -1}, {20, 63, -1}, {10, 10, 400}, {29, 49, 400},
            {9, 10, -1}, {10, 9, -1}, {30, 49, -1}, {29, 50, -1}};
        for (int[] of : due) {
            Check.due(of[2], () -> room.share(0, 0, of[0], of[1]));
        }
        // With a 4 the last full cells end at 45 across and at 61 down.
        room.screen(0, 4, 0, 0);
        Check.due(16, () -> room.share(0, 0, 45, 61));
        Check.due(-1, () -> room.share(0, 0, 46, 61));
        Check.due(-1, () -> room.share(0, 0, 45, 62));
        Check.due(16, () -> room.share(0, 0, 2, 2));
        Check.due(-1, () -> room.share(0, 0, 1, 2));
        Check.due(-1, () -> room.share(0, 0, 2, 1));
        room.screen(0, 3, 0, 0);
        Check.due(9, () -> room.share(0, 0, 46, 61));
        Check.due(-1, () -> room.share(0, 0, 47, 61));
        Check.due(9, () -> room.share(0, 0, 46, 2));
        Check.due(-1, () -> room.share(0, 0, 1, 2));
        // With a 5 they reach the last column, with a 2 one column and one row of them is beyond each end.
        room.screen(0, 5, 0, 0);
        Check.due(25, () -> room.share(0, 0, 47, 62));
        Check.due(25, () -> room.share(0, 0, 43, 62));
        Check.due(-1, () -> room.share(0, 0, 47, 63));
        room.screen(0, 2, 0, 0);
        Check.due(4, () -> room.share(0, 0, 46, 62));
        Check.due(-1, () -> room.share(0, 0, 47, 62));
        Check.due(-1, () -> room.share(0, 0, 46, 63));
        Check.due(4, () -> room.share(0, 0, 1, 1));
        Check.due(-1, () -> room.share(0, 0, 0, 1));
        Check.due(-1, () -> room.share(0, 0, 1, 0));
    }

    /** Of N 1 every cell is a full cell, in the corners, too. */
    private static void fullCellOfOnePlace() {
        PrePressRoom room = Rooms.with(Rooms.row(0, 0, 128));
        room.screen(0, 0, -1, 2);
        room.separate(0);
        int[][] corners = {{0, 0}, {47, 0}, {0, 63}, {47, 63}};
        for (int[] xy : corners) {
            Check.due(1, () -> room.share(0, 0, xy[0], xy[1]));
            Check.due(-1, () -> room.share(0, 1, xy[0], xy[1]));
        }
    }

    private static void noDotsIsNotNone() {
        PrePressRoom room = new PrePressRoom();
        room.separate(0);
        Check.due(0, () -> room.share(0, 0, 2, 2));
        Check.due(PrePressRoom.NONE, () -> room.share(0, 0, 1, 1));
        Check.due(false, () -> room.dot(0, 0, 0, 0));
        Check.due(0, () -> room.proof(0, 0, 0));
    }

    /** "for dots of jobs that were made before, too": the job's amounts stay, its dots are the new screen's. */
    private static void screensOfJobsMadeBefore() {
        PrePressRoom room = Rooms.with(Rooms.row(0, 0, 127), Rooms.row(0, 1, 127));
        room.separate(0);
        Check.due(3, () -> room.proof(0, 0, 0));
        Check.due(1, () -> room.screen(0, 1, 0, 0));
        Check.due(2, () -> room.proof(0, 0, 0));
        Check.due(false, () -> room.dot(0, 0, 0, 0));
        Check.due(true, () -> room.dot(0, 1, 0, 0));
        Check.due(127, () -> room.plate(0, 0, 0, 0));
        Check.due(0, () -> room.share(0, 0, 20, 20));
        Check.due(8, () -> room.share(0, 1, 20, 20));
        Check.due(2, () -> room.screen(0, 1, 1, 0));
        Check.due(3, () -> room.proof(0, 0, 0));
    }

    /** Each ink alone, all that one colour can have, and two spot inks of two colours in a trapped cell. */
    private static void proofOfNoneAndMany() {
        for (int i = 0; i < 8; i++) {
            int ink = i;
            PrePressRoom room = Rooms.with(Rooms.row(0, ink, 255));
            room.separate(0);
            Check.due(1 << ink, () -> room.proof(0, 47, 63));
        }
        PrePressRoom full = Rooms.with(Rooms.row(0, 0, 255), Rooms.row(0, 1, 255), Rooms.row(0, 2, 255),
            Rooms.row(0, 3, 255), Rooms.row(0, 7, 255));
        full.separate(0);
        Check.due(128 + 15, () -> full.proof(0, 47, 63));
        PrePressRoom room = Rooms.ofMarkOnGround(1, 2, Rooms.row(1, 4, 254), Rooms.row(2, 5, 255));
        Check.due(32, () -> room.proof(0, 20, 21));
        room.trap(0, 1);
        Check.due(16 + 32, () -> room.proof(0, 20, 21));
        Check.due(16, () -> room.proof(0, 20, 20));
        Check.due(32, () -> room.proof(0, 20, 22));
    }
}
