/** "Terms" from the inks to trapping: a method for each sentence, in their order. */
final class TermsOfColoursTest {
    public static void main(String[] args) {
        inks();
        colours();
        pages();
        greyGoesToBlack();
        limitOfTheProcessInks();
        spotInksStay();
        theJob();
        trappingByAWidth();
        coloursHaveInks();
        shyColours();
        lighterColours();
        trappedCells();
        platesOfTrappedCells();
        coloursOfTheJobsCells();
        Check.end();
    }

    private static int[] row(int c, int ink, int v) {
        return Rooms.row(c, ink, v);
    }

    private static String plates(PrePressRoom room, int x, int y) {
        StringBuilder amounts = new StringBuilder();
        for (int ink = 0; ink < 8; ink++) {
            amounts.append(ink == 0 ? "" : " ").append(room.plate(0, ink, x, y));
        }
        return amounts.toString();
    }

    /** The plates of a cell whose colour has these amounts, from ink 0 on, when its job is made. */
    private static String separated(int share, int limit, int... inks) {
        PrePressRoom room = new PrePressRoom();
        for (int ink = 0; ink < inks.length; ink++) {
            room.colour(1, ink, inks[ink]);
        }
        room.box(0, 20, 20, 1, 1, 1);
        room.grey(share, limit);
        room.separate(0);
        return plates(room, 20, 20);
    }

    /** A cell of colour 1 on colour 2: "67 0" when 1 spreads into 2, "0 130" when 2 does into 1, "0 0" when none does. */
    private static String spread(int[]... amounts) {
        return spreadWithLimit(1020, amounts);
    }

    private static String spreadWithLimit(int limit, int[]... amounts) {
        PrePressRoom room = Rooms.ofMarkOnGround(1, 2, amounts);
        room.grey(0, limit);
        room.separate(0);
        room.trap(0, 1);
        return room.trapped(0, 21, 20) + " " + room.trapped(0, 20, 20);
    }

    /** "INKS 0 .. 7: four of the PROCESS (0 cyan, 1 magenta, 2 yellow, 3 black) and four SPOT inks." */
    private static void inks() {
        Check.ends(0, 7, Check.INDEX, ink -> new PrePressRoom().colour(0, ink, 1));
        PrePressRoom room = new PrePressRoom();
        for (int i = 0; i < 4; i++) {
            int process = i;
            Check.due(0, () -> room.colour(0, process, 255));
        }
        for (int i = 4; i < 8; i++) {
            int spot = i;
            Check.due(0, () -> room.colour(spot, spot, 1));
            Check.due(Check.STATE, () -> room.colour(spot, 11 - spot, 1));
        }
        Check.due("0 10 20 17 0 0 0 0", () -> separated(100, 1020, 10, 20, 30, 7));
    }

    /** "COLOURS 0 .. 63 have an AMOUNT (0 .. 255) of each ink, 0 at first; at most one spot ink of a colour is above 0." */
    private static void colours() {
        Check.ends(0, 63, Check.INDEX, c -> new PrePressRoom().colour(c, 0, 1));
        for (int i = 0; i < 8; i++) {
            int ink = i;
            Check.ends(0, 255, Check.ARGUMENT, v -> new PrePressRoom().colour(0, ink, v));
            PrePressRoom room = new PrePressRoom();
            Check.due(0, () -> room.colour(63, ink, 255));
            Check.due(0, () -> room.colour(62, ink, 2));
            Check.due(255, () -> room.colour(63, ink, 0));
            Check.due(2, () -> room.colour(62, ink, 0));
        }
        PrePressRoom room = Rooms.with(row(5, 6, 1));
        Check.due(Check.STATE, () -> room.colour(5, 4, 1));
        Check.due(0, () -> room.colour(5, 4, 0));
        Check.due(1, () -> room.colour(5, 6, 255));
        Check.due(0, () -> room.colour(6, 4, 1));
        Check.due(0, () -> room.colour(5, 0, 1));
    }

    /** "PAGES 0 .. 3 are 48 CELLS wide and 64 high, each cell with a colour, 0 at first." */
    private static void pages() {
        Check.ends(0, 3, Check.INDEX, page -> new PrePressRoom().cell(page, 47, 63));
        Check.ends(0, 47, Check.INDEX, x -> new PrePressRoom().cell(3, x, 63));
        Check.ends(0, 63, Check.INDEX, y -> new PrePressRoom().cell(3, 47, y));
        for (int i = 0; i < 4; i++) {
            int page = i;
            PrePressRoom room = new PrePressRoom();
            Check.due(0, () -> room.box(page, 0, 0, 48, 64, 0));
            Check.due(1, () -> room.box(page, 47, 63, 1, 1, 63));
            Check.due(63, () -> room.cell(page, 47, 63));
            Check.due(0, () -> room.cell(page, 46, 63));
            Check.due(0, () -> room.cell(3 - page, 47, 63));
            Check.due(3071, () -> room.box(page, 0, 0, 48, 64, 63));
        }
    }

    /**
     * "SEPARATING a colour, by a SHARE (0 .. 100) and a LIMIT (200 .. 1020): g is the least of cyan, magenta, yellow,
     * times the share, divided by 100 (rounded down, as all here), but at most 255 less black; black is more by g, each
     * of these three less by g."
     */
    private static void greyGoesToBlack() {
        Check.ends(0, 100, Check.ARGUMENT, share -> separated(share, 200));
        Check.ends(200, 1020, Check.ARGUMENT, limit -> separated(0, limit));
        Check.due("100 140 190 6 0 0 0 0", () -> separated(0, 1020, 100, 140, 190, 6));
        Check.due("50 90 140 56 0 0 0 0", () -> separated(50, 1020, 100, 140, 190, 6));
        Check.due("125 35 175 81 0 0 0 0", () -> separated(59, 1020, 173, 83, 223, 33));
        Check.due("2 1 0 7 0 0 0 0", () -> separated(100, 1020, 9, 8, 7));
        Check.due("45 45 46 255 0 0 0 0", () -> separated(100, 1020, 100, 100, 101, 200));
    }

    /**
     * "Then, when the four process inks are more than the limit together: each of these three times (limit less black, 0
     * if that is below 0), divided by the sum of the three (0, when that is 0)."
     */
    private static void limitOfTheProcessInks() {
        Check.due("0 149 0 50 0 0 0 0", () -> separated(0, 200, 0, 149, 0, 50));
        Check.due("50 50 50 50 0 0 0 0", () -> separated(0, 200, 50, 50, 50, 50));
        Check.due("49 49 50 50 0 0 0 0", () -> separated(0, 200, 50, 50, 51, 50));
        Check.due("0 0 0 255 0 0 0 0", () -> separated(0, 200, 10, 20, 30, 255));
        Check.due("0 0 0 255 0 0 0 0", () -> separated(0, 200, 0, 0, 0, 255));
        // The grey has gone to black before: of the 280 of this colour 120 are left, which the limit allows.
        Check.due("0 0 20 100 0 0 0 0", () -> separated(100, 200, 80, 80, 100, 20));
        Check.due("35 50 64 50 0 0 0 0", () -> separated(50, 200, 100, 120, 140));
    }

    /** "Spot inks stay." Nor are they among the four that the limit is for. */
    private static void spotInksStay() {
        Check.due("50 50 50 50 255 0 0 0", () -> separated(0, 200, 50, 50, 50, 50, 255));
        Check.due("66 66 66 0 0 255 0 0", () -> separated(0, 200, 255, 255, 255, 0, 0, 255));
        Check.due("0 0 0 255 0 0 254 0", () -> separated(100, 200, 255, 255, 255, 0, 0, 0, 254));
        Check.due("0 0 0 255 0 0 0 1", () -> separated(50, 200, 9, 9, 9, 255, 0, 0, 0, 1));
    }

    /**
     * "THE JOB of a page has its cells' colours, and all colours separated, as they were when it was made; its PLATES
     * have the amount of each ink in each cell."
     */
    private static void theJob() {
        PrePressRoom room = Rooms.ofMarkOnGround(1, 2, row(1, 0, 3), row(1, 1, 4), row(1, 2, 200), row(2, 3, 150), row(2, 7, 60));
        String ofMark = "3 4 200 0 0 0 0 0";
        String ofGround = "0 0 0 150 0 0 0 60";
        Check.due(ofMark, () -> plates(room, 20, 20));
        Check.due(ofGround, () -> plates(room, 47, 63));
        room.box(0, 20, 20, 1, 1, 2);
        room.colour(1, 2, 0);
        room.colour(2, 7, 0);
        room.grey(100, 200);
        Check.due(ofMark, () -> plates(room, 20, 20));
        Check.due(ofGround, () -> plates(room, 47, 63));
        Check.due(8, () -> room.trap(0, 1));
        Check.due("3 4 200 150 0 0 0 60", () -> plates(room, 21, 21));
        Check.due(1, () -> room.separate(0));
        Check.due("0 0 0 150 0 0 0 0", () -> plates(room, 20, 20));
    }

    /** "TRAPPING by a WIDTH (1 .. 3)." */
    private static void trappingByAWidth() {
        Check.ends(1, 3, Check.ARGUMENT, width -> Rooms.ofMarkOnGround(1, 2).trap(0, width));
        for (int i = 1; i <= 3; i++) {
            int width = i;
            PrePressRoom room = Rooms.ofMarkOnGround(1, 2, row(1, 2, 200), row(2, 3, 150));
            Check.due((2 * width + 1) * (2 * width + 1) - 1, () -> room.trap(0, width));
        }
    }

    /** "A colour HAS an ink, when its amount (of the job) is 64 or more." */
    private static void coloursHaveInks() {
        Check.due("67 0", () -> spread(row(1, 2, 64), row(2, 3, 64)));
        Check.due("0 0", () -> spread(row(1, 2, 63), row(2, 3, 64)));
        Check.due("0 0", () -> spread(row(1, 2, 64), row(2, 3, 63)));
        // As the limit is 200, full inks are (200 less black) / 3 each in the job: 64 with black 8, but 63 with 9.
        int[][] three = {row(1, 0, 255), row(1, 1, 255), row(1, 2, 255), row(2, 4, 255), row(1, 3, 8)};
        Check.due("67 0", () -> spreadWithLimit(200, three));
        three[4][2] = 9;
        Check.due("0 0", () -> spreadWithLimit(200, three));
    }

    /** "Two colours are SHY, when each has some ink, but none that the other has, too." */
    private static void shyColours() {
        Check.due("67 0", () -> spread(row(1, 0, 64), row(1, 2, 64), row(2, 1, 99), row(2, 3, 99)));
        Check.due("0 0", () -> spread(row(1, 0, 64), row(1, 2, 64), row(2, 2, 99), row(2, 3, 99)));
        Check.due("0 0", () -> spread(row(1, 7, 64), row(2, 7, 255)));
        Check.due("67 0", () -> spread(row(1, 6, 64), row(2, 7, 255)));
        Check.due("0 0", () -> spread(row(2, 3, 255)));
        Check.due("0 0", () -> spread(row(1, 3, 255)));
        Check.due("0 0", () -> spread());
    }

    /**
     * "The WEIGHT of a colour is the sum of its amounts times 30, 59, 11, 100, and 50 for spot inks; of two the one with
     * the lower weight is LIGHTER, of equal ones the lower number."
     */
    private static void lighterColours() {
        int[][] equal = {{0, 250, 3, 75}, {1, 200, 3, 118}, {2, 180, 0, 66}, {4, 200, 3, 100}, {5, 200, 3, 100},
            {6, 200, 3, 100}, {7, 200, 3, 100}};
        for (int[] e : equal) {
            Check.due("67 0", () -> spread(row(1, e[0], e[1]), row(2, e[2], e[3])));
            Check.due("0 130", () -> spread(row(1, e[0], e[1] + 1), row(2, e[2], e[3])));
            Check.due("67 0", () -> spread(row(2, e[0], e[1]), row(1, e[2], e[3])));
            Check.due("0 130", () -> spread(row(2, e[0], e[1] - 1), row(1, e[2], e[3])));
        }
        // The sum is of all amounts, those below 64 among them: 80 * 30 lies between 64 * 11 + 16 * 100 and 100 more.
        Check.due("0 130", () -> spread(row(1, 0, 80), row(2, 2, 64), row(2, 3, 16)));
        Check.due("67 0", () -> spread(row(1, 0, 80), row(2, 2, 64), row(2, 3, 17)));
        // They are the job's amounts: 66 of each of the three, as the limit is 200, are lighter than 255 of a spot ink.
        int[][] three = {row(1, 0, 255), row(1, 1, 255), row(1, 2, 255), row(2, 4, 255)};
        Check.due("0 130", () -> spreadWithLimit(1020, three));
        Check.due("67 0", () -> spreadWithLimit(200, three));
    }

    /** Black of colour 9, cyan of 3 and yellow of 5, which is lighter than cyan: what trapped() answers at 20, 20. */
    private static int trappedBy(int width, int[] cyan, int[] yellow) {
        PrePressRoom room = Rooms.with(row(9, 3, 255), row(3, 0, 255), row(5, 2, 64));
        room.box(0, 0, 0, 48, 64, 9);
        room.box(0, 20 + cyan[0], 20 + cyan[1], 1, 1, 3);
        room.box(0, 20 + yellow[0], 20 + yellow[1], 1, 1, 5);
        room.separate(0);
        room.trap(0, width);
        return room.trapped(0, 20, 20);
    }

    /**
     * "A cell is trapped, if a cell with a colour that is shy of its own and lighter lies within the width (the greater of
     * the distances across and down); of several such cells the nearest counts, of equally near ones the one with the
     * lowest colour."
     */
    private static void trappedCells() {
        int byCyan = 1 + 64 * 3 + 9;
        int byYellow = 1 + 64 * 5 + 9;
        int[] far = {9, 9};
        for (int i = 1; i <= 3; i++) {
            int width = i;
            Check.due(byYellow, () -> trappedBy(width, far, new int[] {-width, width}));
            Check.due(byYellow, () -> trappedBy(width, far, new int[] {0, -width}));
            Check.due(0, () -> trappedBy(width, far, new int[] {width + 1, 0}));
            Check.due(0, () -> trappedBy(width, far, new int[] {0, width + 1}));
        }
        Check.due(byYellow, () -> trappedBy(3, new int[] {0, 3}, new int[] {2, 2}));
        Check.due(byCyan, () -> trappedBy(3, new int[] {-2, -2}, new int[] {3, 0}));
        Check.due(byCyan, () -> trappedBy(3, new int[] {2, 2}, new int[] {0, 2}));
        Check.due(byCyan, () -> trappedBy(3, new int[] {0, 2}, new int[] {-2, -2}));
        // At the right end of a page, and none at its left end.
        PrePressRoom room = Rooms.with(row(9, 3, 255), row(5, 2, 64));
        room.box(0, 0, 0, 48, 64, 9);
        room.box(0, 47, 20, 1, 1, 5);
        room.separate(0);
        Check.due(5, () -> room.trap(0, 1));
        Check.due(byYellow, () -> room.trapped(0, 46, 21));
        Check.due(0, () -> room.trapped(0, 0, 21));
    }

    /** "Its plates get the greater amount of the two colours, ink by ink." */
    private static void platesOfTrappedCells() {
        PrePressRoom room = Rooms.ofMarkOnGround(1, 2, row(1, 0, 9), row(1, 1, 20), row(1, 2, 200), row(1, 6, 33),
            row(2, 0, 10), row(2, 1, 19), row(2, 3, 250), row(2, 5, 44));
        room.trap(0, 1);
        Check.due("10 20 200 250 0 44 33 0", () -> plates(room, 19, 21));
        Check.due("9 20 200 0 0 0 33 0", () -> plates(room, 20, 20));
        Check.due("10 19 0 250 0 44 0 0", () -> plates(room, 18, 22));
    }

    /** "(Colours are those of the job's cells, whatever is trapped.)" Cyan gets yellow, but spreads as cyan into black. */
    private static void coloursOfTheJobsCells() {
        PrePressRoom room = Rooms.with(row(1, 2, 255), row(2, 0, 100), row(3, 3, 255), row(3, 2, 64));
        room.box(0, 0, 0, 48, 64, 3);
        room.box(0, 0, 0, 1, 64, 1);
        room.box(0, 1, 0, 1, 64, 2);
        room.separate(0);
        Check.due(128, () -> room.trap(0, 1));
        Check.due("100 0 255 0 0 0 0 0", () -> plates(room, 1, 9));
        Check.due(1 + 64 * 2 + 3, () -> room.trapped(0, 2, 9));
        Check.due("100 0 64 255 0 0 0 0", () -> plates(room, 2, 9));
    }
}
