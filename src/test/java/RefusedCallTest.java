/** Calls that are refused: of several exceptions the first one told is thrown, and nothing is changed. */
final class RefusedCallTest {
    private static final String INDEX = Check.INDEX;
    private static final String ARGUMENT = Check.ARGUMENT;
    private static final String STATE = Check.STATE;

    public static void main(String[] args) {
        firstOfColour();
        firstOfBox();
        firstOfJobCalls();
        firstOfTrap();
        firstOfScreenAndRank();
        firstOfSheetCalls();
        noJob();
        nothingLaid();
        trappedAlready();
        refusedColourChangesNothing();
        refusedBoxChangesNothing();
        refusedGreyChangesNothing();
        refusedSeparateChangesNothing();
        refusedTrapChangesNothing();
        refusedScreenChangesNothing();
        refusedImposeChangesNothing();
        Check.end();
    }

    /** No colour or ink comes before a wrong amount, and that before another spot ink. */
    private static void firstOfColour() {
        PrePressRoom room = Rooms.with(Rooms.row(0, 4, 1));
        Check.due(INDEX, () -> room.colour(64, 8, 256));
        Check.due(INDEX, () -> room.colour(64, 5, 256));
        Check.due(INDEX, () -> room.colour(-1, 5, 1));
        Check.due(INDEX, () -> room.colour(0, 8, 256));
        Check.due(INDEX, () -> room.colour(0, -1, -1));
        Check.due(ARGUMENT, () -> room.colour(0, 5, 256));
        Check.due(ARGUMENT, () -> room.colour(0, 5, -1));
        Check.due(STATE, () -> room.colour(0, 5, 255));
    }

    private static void firstOfBox() {
        PrePressRoom room = new PrePressRoom();
        Check.due(INDEX, () -> room.box(4, 0, 0, 0, 1, 0));
        Check.due(INDEX, () -> room.box(-1, 48, 64, 1, 1, 0));
        Check.due(INDEX, () -> room.box(0, 0, 0, 1, 0, 64));
        Check.due(INDEX, () -> room.box(0, 40, 0, 9, 1, -1));
        Check.due(INDEX, () -> room.box(4, 0, 0, 0, 0, 64));
        Check.due(ARGUMENT, () -> room.box(3, 48, 64, 0, 0, 63));
    }

    /** No such page, ink or cell comes before no job. */
    private static void firstOfJobCalls() {
        PrePressRoom room = new PrePressRoom();
        int[][] wrong = {{4, 0, 0, 0}, {-1, 0, 0, 0}, {0, 8, 0, 0}, {0, -1, 0, 0}, {0, 0, 48, 0}, {0, 0, -1, 0},
            {0, 0, 0, 64}, {0, 0, 0, -1}};
        for (int[] w : wrong) {
            Check.due(INDEX, () -> room.plate(w[0], w[1], w[2], w[3]));
            Check.due(INDEX, () -> room.dot(w[0], w[1], w[2], w[3]));
            Check.due(INDEX, () -> room.share(w[0], w[1], w[2], w[3]));
            boolean withoutInk = w[1] == 0;
            Check.due(withoutInk ? INDEX : STATE, () -> room.trapped(w[0], w[2], w[3]));
            Check.due(withoutInk ? INDEX : STATE, () -> room.proof(w[0], w[2], w[3]));
        }
    }

    /** No such page comes before a wrong width, and that before no job and before a trapped one. */
    private static void firstOfTrap() {
        PrePressRoom room = new PrePressRoom();
        Check.due(INDEX, () -> room.trap(4, 0));
        Check.due(INDEX, () -> room.trap(-1, 4));
        Check.due(INDEX, () -> room.trap(4, 1));
        Check.due(ARGUMENT, () -> room.trap(0, 0));
        Check.due(ARGUMENT, () -> room.trap(0, 4));
        room.separate(0);
        room.trap(0, 3);
        Check.due(ARGUMENT, () -> room.trap(0, 0));
        Check.due(ARGUMENT, () -> room.trap(0, 4));
        Check.due(STATE, () -> room.trap(0, 1));
    }

    private static void firstOfScreenAndRank() {
        PrePressRoom room = new PrePressRoom();
        Check.due(INDEX, () -> room.screen(8, 21, 0, 0));
        Check.due(INDEX, () -> room.screen(-1, 0, 0, 0));
        Check.due(INDEX, () -> room.screen(8, 1, 1, 3));
        Check.due(INDEX, () -> room.rank(8, 1001, 0));
        Check.due(INDEX, () -> room.rank(-1, 0, -1001));
    }

    /** Here nothing laid is told first, before any wrong number. */
    private static void firstOfSheetCalls() {
        PrePressRoom room = new PrePressRoom();
        int[][] wrong = {{-1, 0, 0, 0}, {1, 0, 0, 0}, {0, 2, 0, 0}, {0, -1, 0, 0}, {0, 0, 16, 0}, {0, 0, -1, 0},
            {0, 0, 0, 3}, {0, 0, 0, -1}};
        for (int[] w : wrong) {
            Check.due(STATE, () -> room.slot(w[0], w[1], w[2], w[3]));
        }
        Check.due(STATE, () -> room.read(-1, 0));
        Check.due(STATE, () -> room.read(32, 0));
        Check.due(STATE, () -> room.read(0, 2));
        Check.due(STATE, () -> room.read(0, -1));
        room.impose(4, 1, 0);
        for (int[] w : wrong) {
            Check.due(INDEX, () -> room.slot(w[0], w[1], w[2], w[3]));
        }
        Check.due(INDEX, () -> room.read(-1, 0));
        Check.due(INDEX, () -> room.read(4, 0));
        Check.due(INDEX, () -> room.read(0, 2));
    }

    /** Each page has a job of its own. */
    private static void noJob() {
        for (int made = 0; made < 4; made++) {
            PrePressRoom room = new PrePressRoom();
            room.separate(made);
            for (int page = 0; page < 4; page++) {
                int p = page;
                boolean has = p == made;
                Check.due(has ? 0 : STATE, () -> room.plate(p, 0, 47, 63));
                Check.due(has ? 0 : STATE, () -> room.trapped(p, 47, 63));
                Check.due(has ? false : STATE, () -> room.dot(p, 0, 47, 63));
                Check.due(has ? 0 : STATE, () -> room.share(p, 0, 20, 20));
                Check.due(has ? 0 : STATE, () -> room.proof(p, 47, 63));
                Check.due(has ? 0 : STATE, () -> room.trap(p, 3));
            }
        }
    }

    private static void nothingLaid() {
        PrePressRoom room = new PrePressRoom();
        Check.due(STATE, () -> room.slot(0, 0, 0, 0));
        Check.due(STATE, () -> room.read(0, 0));
        Check.due(ARGUMENT, () -> room.impose(0, 1, 0));
        Check.due(STATE, () -> room.slot(0, 0, 0, 0));
        Check.due(STATE, () -> room.read(0, 0));
        Check.due(1, () -> room.impose(4, 1, 0));
        Check.due(2, () -> room.slot(0, 0, 0, 0));
        Check.due(1, () -> room.read(0, 0));
    }

    /** Once for each job, whatever the width was and whether a cell was found; another page's traps do not count. */
    private static void trappedAlready() {
        for (int first = 1; first <= 3; first++) {
            int width = first;
            PrePressRoom room = new PrePressRoom();
            room.separate(0);
            room.separate(1);
            Check.due(0, () -> room.trap(0, width));
            Check.due(STATE, () -> room.trap(0, width));
            Check.due(STATE, () -> room.trap(0, 4 - width));
            Check.due(0, () -> room.trap(1, width));
            Check.due(1, () -> room.separate(0));
            Check.due(0, () -> room.trap(0, width));
            Check.due(STATE, () -> room.trap(1, width));
        }
    }

    private static void refusedColourChangesNothing() {
        PrePressRoom room = Rooms.with(Rooms.row(3, 0, 77), Rooms.row(3, 4, 88));
        Check.due(ARGUMENT, () -> room.colour(3, 0, 256));
        Check.due(ARGUMENT, () -> room.colour(3, 0, -1));
        Check.due(STATE, () -> room.colour(3, 5, 9));
        Check.due(77, () -> room.colour(3, 0, 77));
        Check.due(0, () -> room.colour(3, 5, 0));
        Check.due(88, () -> room.colour(3, 4, 88));
    }

    private static void refusedBoxChangesNothing() {
        PrePressRoom room = new PrePressRoom();
        room.box(0, 0, 0, 48, 64, 1);
        Check.due(ARGUMENT, () -> room.box(0, 0, 0, 49, 64, 2));
        Check.due(ARGUMENT, () -> room.box(0, 0, 0, 48, 65, 2));
        Check.due(ARGUMENT, () -> room.box(0, -1, 0, 48, 64, 2));
        Check.due(ARGUMENT, () -> room.box(0, 0, -1, 48, 64, 2));
        Check.due(ARGUMENT, () -> room.box(0, 0, 0, 48, 0, 2));
        Check.due(INDEX, () -> room.box(0, 0, 0, 48, 64, 64));
        Check.due(0, () -> room.box(0, 0, 0, 48, 64, 1));
    }

    /** Neither the share nor the limit is taken when the other one is wrong. */
    private static void refusedGreyChangesNothing() {
        PrePressRoom room = Rooms.with(Rooms.row(0, 0, 100), Rooms.row(0, 1, 100), Rooms.row(0, 2, 101));
        room.grey(50, 250);
        Check.dueOf(ARGUMENT, () -> room.grey(100, 1021));
        Check.dueOf(ARGUMENT, () -> room.grey(0, 199));
        Check.dueOf(ARGUMENT, () -> room.grey(101, 200));
        Check.dueOf(ARGUMENT, () -> room.grey(-1, 200));
        room.separate(0);
        Check.due(50, () -> room.plate(0, 0, 0, 0));
        Check.due(51, () -> room.plate(0, 2, 0, 0));
        Check.due(50, () -> room.plate(0, 3, 0, 0));
    }

    private static void refusedSeparateChangesNothing() {
        PrePressRoom room = Rooms.with(Rooms.row(0, 0, 100));
        room.separate(0);
        room.colour(0, 0, 200);
        Check.due(INDEX, () -> room.separate(4));
        Check.due(INDEX, () -> room.separate(-1));
        Check.due(100, () -> room.plate(0, 0, 0, 0));
        Check.due(STATE, () -> room.plate(1, 0, 0, 0));
    }

    /** A trap with a wrong width is none; a second one leaves the first one's cells. */
    private static void refusedTrapChangesNothing() {
        PrePressRoom room = Rooms.ofMarkOnGround(1, 2, Rooms.row(1, 2, 200), Rooms.row(2, 3, 150));
        Check.due(ARGUMENT, () -> room.trap(0, 4));
        Check.due(ARGUMENT, () -> room.trap(0, 0));
        Check.due(0, () -> room.trapped(0, 19, 20));
        Check.due(8, () -> room.trap(0, 1));
        Check.due(STATE, () -> room.trap(0, 2));
        Check.due(67, () -> room.trapped(0, 19, 20));
        Check.due(0, () -> room.trapped(0, 18, 20));
    }

    private static void refusedScreenChangesNothing() {
        PrePressRoom room = new PrePressRoom();
        room.screen(0, 3, 0, 0);
        Check.due(ARGUMENT, () -> room.screen(0, 21, 0, 0));
        Check.due(ARGUMENT, () -> room.screen(0, 0, 21, 0));
        Check.due(ARGUMENT, () -> room.screen(0, 0, 0, 0));
        Check.due(ARGUMENT, () -> room.screen(0, 20, 1, 0));
        Check.due(ARGUMENT, () -> room.screen(0, 5, 0, 3));
        Check.due(0, () -> room.rank(0, 3, 3));
        Check.due(3, () -> room.rank(0, 1, 0));
        Check.due(8, () -> room.rank(0, 1, 1));
    }

    private static void refusedImposeChangesNothing() {
        PrePressRoom room = new PrePressRoom();
        room.impose(24, 2, 5);
        Check.due(ARGUMENT, () -> room.impose(32, 5, 0));
        Check.due(ARGUMENT, () -> room.impose(32, 0, 0));
        Check.due(ARGUMENT, () -> room.impose(32, 4, 1001));
        Check.due(ARGUMENT, () -> room.impose(32, 4, -1));
        Check.due(ARGUMENT, () -> room.impose(33, 4, 0));
        Check.due(ARGUMENT, () -> room.impose(96, 4, 0));
        Check.due(22, () -> room.slot(2, 0, 0, 0));
        Check.due(5, () -> room.slot(2, 0, 1, 2));
        Check.due(INDEX, () -> room.slot(0, 0, 4, 0));
        Check.due(INDEX, () -> room.read(8, 0));
    }
}
