/** Terms, and promises 2 to 7: the boundary cases of colours, cells, separating and the job. */
final class SeparatingEdgesTest {
    public static void main(String[] args) {
        atMostOneSpotInk();
        paintedCells();
        greyRoundsDown();
        shareAtItsEnds();
        atMost255LessBlack();
        moreThanTheLimit();
        limitLessBlackBelowZero();
        noneOfTheThree();
        limitAfterBlack();
        limitedAmountsRoundDown();
        spotInksStay();
        coloursOfAJob();
        asTheyWereWhenItWasMade();
        Check.end();
    }

    /** The process inks of a colour, parted. */
    private static String parted(int share, int limit, int... inks) {
        PrePressRoom room = new PrePressRoom();
        for (int ink = 0; ink < 4; ink++) {
            room.colour(63, ink, inks[ink]);
        }
        room.box(3, 47, 63, 1, 1, 63);
        room.grey(share, limit);
        room.separate(3);
        return platesAt(room, 3, 47, 63);
    }

    private static String platesAt(PrePressRoom room, int page, int x, int y) {
        StringBuilder amounts = new StringBuilder();
        for (int ink = 0; ink < 4; ink++) {
            amounts.append(ink == 0 ? "" : " ").append(room.plate(page, ink, x, y));
        }
        return amounts.toString();
    }

    /** "at most one spot ink of a colour is above 0": each pair of them, with 0, 1 and 255. */
    private static void atMostOneSpotInk() {
        for (int one = 4; one < 8; one++) {
            for (int two = 4; two < 8; two++) {
                if (one != two) {
                    oneSpotInk(one, two);
                }
            }
        }
    }

    private static void oneSpotInk(int one, int two) {
        PrePressRoom room = new PrePressRoom();
        Check.due(0, () -> room.colour(9, one, 1));
        Check.due(0, () -> room.colour(9, two, 0));
        Check.due(Check.STATE, () -> room.colour(9, two, 1));
        Check.due(Check.STATE, () -> room.colour(9, two, 255));
        Check.due(0, () -> room.colour(8, two, 1));
        Check.due(1, () -> room.colour(9, one, 255));
        Check.due(255, () -> room.colour(9, one, 0));
        Check.due(0, () -> room.colour(9, two, 1));
        Check.due(Check.STATE, () -> room.colour(9, one, 1));
        for (int ink = 0; ink < 4; ink++) {
            int process = ink;
            Check.due(0, () -> room.colour(9, process, 255));
        }
    }

    /** "how many of them had another colour": none, one, all but one, all. */
    private static void paintedCells() {
        PrePressRoom room = new PrePressRoom();
        Check.due(0, () -> room.box(0, 0, 0, 48, 64, 0));
        Check.due(0, () -> room.box(0, 47, 63, 1, 1, 0));
        Check.due(1, () -> room.box(0, 47, 63, 1, 1, 63));
        Check.due(1, () -> room.box(0, 0, 0, 48, 64, 0));
        Check.due(1, () -> room.box(0, 0, 0, 1, 1, 63));
        Check.due(3071, () -> room.box(0, 0, 0, 48, 64, 63));
        Check.due(3072, () -> room.box(0, 0, 0, 48, 64, 0));
        Check.due(48, () -> room.box(3, 0, 63, 48, 1, 1));
        Check.due(63, () -> room.box(3, 47, 0, 1, 64, 1));
        Check.due(1, () -> room.cell(3, 0, 63));
        Check.due(1, () -> room.cell(3, 47, 0));
        Check.due(0, () -> room.cell(3, 46, 62));
    }

    /** "times the share, divided by 100 (rounded down)". */
    private static void greyRoundsDown() {
        Check.due("1 1 1 0", () -> parted(99, 1020, 1, 1, 1, 0));
        Check.due("0 0 0 1", () -> parted(100, 1020, 1, 1, 1, 0));
        Check.due("1 1 1 0", () -> parted(50, 1020, 1, 1, 1, 0));
        Check.due("1 1 1 1", () -> parted(50, 1020, 2, 2, 2, 0));
        Check.due("99 99 99 0", () -> parted(1, 1020, 99, 99, 99, 0));
        Check.due("99 99 99 1", () -> parted(1, 1020, 100, 100, 100, 0));
        Check.due("253 253 253 2", () -> parted(1, 1020, 255, 255, 255, 0));
        Check.due("3 3 3 252", () -> parted(99, 1020, 255, 255, 255, 0));
    }

    /** Of share 0 none goes to black, of share 100 all that the least of the three has, whichever that is. */
    private static void shareAtItsEnds() {
        Check.due("255 255 255 0", () -> parted(0, 1020, 255, 255, 255, 0));
        Check.due("0 0 0 255", () -> parted(100, 1020, 255, 255, 255, 0));
        Check.due("0 1 2 9", () -> parted(100, 1020, 9, 10, 11, 0));
        Check.due("1 0 2 9", () -> parted(100, 1020, 10, 9, 11, 0));
        Check.due("2 1 0 9", () -> parted(100, 1020, 11, 10, 9, 0));
        Check.due("0 255 255 7", () -> parted(100, 1020, 0, 255, 255, 7));
        Check.due("255 0 255 7", () -> parted(100, 1020, 255, 0, 255, 7));
        Check.due("255 255 0 7", () -> parted(100, 1020, 255, 255, 0, 7));
        Check.due("0 0 0 7", () -> parted(100, 1020, 0, 0, 0, 7));
    }

    /** "but at most 255 less black". */
    private static void atMost255LessBlack() {
        Check.due("0 0 0 254", () -> parted(100, 1020, 100, 100, 100, 154));
        Check.due("0 0 0 255", () -> parted(100, 1020, 100, 100, 100, 155));
        Check.due("1 1 1 255", () -> parted(100, 1020, 100, 100, 100, 156));
        Check.due("99 99 99 255", () -> parted(100, 1020, 100, 100, 100, 254));
        Check.due("100 100 100 255", () -> parted(100, 1020, 100, 100, 100, 255));
        Check.due("205 205 205 255", () -> parted(50, 1020, 255, 255, 255, 205));
    }

    /** "when the four process inks are more than the limit together". */
    private static void moreThanTheLimit() {
        Check.due("50 50 50 50", () -> parted(0, 200, 50, 50, 50, 50));
        Check.due("50 49 49 50", () -> parted(0, 200, 51, 50, 50, 50));
        Check.due("49 50 49 50", () -> parted(0, 200, 50, 51, 50, 50));
        Check.due("49 49 50 50", () -> parted(0, 200, 50, 50, 51, 50));
        Check.due("49 49 49 51", () -> parted(0, 200, 50, 50, 50, 51));
        Check.due("255 255 255 255", () -> parted(0, 1020, 255, 255, 255, 255));
        Check.due("254 254 254 255", () -> parted(0, 1019, 255, 255, 255, 255));
        Check.due("200 0 0 0", () -> parted(0, 200, 200, 0, 0, 0));
        Check.due("200 0 0 0", () -> parted(0, 200, 201, 0, 0, 0));
        Check.due("200 0 0 0", () -> parted(0, 200, 255, 0, 0, 0));
    }

    /** "limit less black, 0 if that is below 0". */
    private static void limitLessBlackBelowZero() {
        Check.due("0 0 1 199", () -> parted(0, 200, 0, 0, 9, 199));
        Check.due("0 0 0 200", () -> parted(0, 200, 0, 0, 9, 200));
        Check.due("0 0 0 201", () -> parted(0, 200, 0, 0, 9, 201));
        Check.due("0 0 0 255", () -> parted(0, 200, 0, 9, 0, 255));
        Check.due("0 0 0 255", () -> parted(0, 200, 255, 255, 255, 255));
        Check.due("0 0 0 255", () -> parted(0, 255, 255, 255, 255, 255));
        Check.due("0 1 0 255", () -> parted(0, 256, 0, 255, 0, 255));
    }

    /** "divided by the sum of the three (0, when that is 0)". */
    private static void noneOfTheThree() {
        Check.due("0 0 0 200", () -> parted(0, 200, 0, 0, 0, 200));
        Check.due("0 0 0 201", () -> parted(0, 200, 0, 0, 0, 201));
        Check.due("0 0 0 255", () -> parted(0, 200, 0, 0, 0, 255));
        Check.due("0 0 0 201", () -> parted(100, 200, 101, 101, 101, 100));
        Check.due("0 0 0 200", () -> parted(100, 200, 100, 100, 100, 100));
        Check.due("0 0 0 200", () -> parted(0, 200, 1, 0, 0, 200));
    }

    /** "Then, when ..": the limit is looked at after g was moved to black, and black is the new one. */
    private static void limitAfterBlack() {
        Check.due("66 66 66 0", () -> parted(0, 200, 67, 67, 67, 0));
        Check.due("0 0 0 67", () -> parted(100, 200, 67, 67, 67, 0));
        Check.due("50 50 0 100", () -> parted(100, 200, 150, 150, 100, 0));
        Check.due("50 49 0 100", () -> parted(100, 200, 151, 150, 100, 0));
        Check.due("0 0 0 255", () -> parted(100, 200, 255, 255, 200, 55));
    }

    private static void limitedAmountsRoundDown() {
        Check.due("66 66 66 1", () -> parted(0, 200, 255, 255, 255, 1));
        Check.due("33 66 99 1", () -> parted(0, 200, 50, 100, 150, 1));
        Check.due("0 0 199 0", () -> parted(0, 200, 1, 0, 255, 0));
        Check.due("0 99 99 0", () -> parted(0, 200, 1, 255, 255, 0));
    }

    /** "Spot inks stay": and the limit is none of theirs. */
    private static void spotInksStay() {
        for (int ink = 4; ink < 8; ink++) {
            int spot = ink;
            PrePressRoom room = Rooms.with(Rooms.row(0, spot, 255), Rooms.row(0, 0, 200));
            room.grey(100, 200);
            room.separate(0);
            Check.due("200 0 0 0", () -> platesAt(room, 0, 0, 0));
            Check.due(255, () -> room.plate(0, spot, 0, 0));
            room.colour(0, 1, 1);
            room.colour(0, 2, 1);
            room.colour(0, 3, 255);
            room.separate(0);
            Check.due("0 0 0 255", () -> platesAt(room, 0, 0, 0));
            Check.due(255, () -> room.plate(0, spot, 0, 0));
        }
    }

    /** "how many colours its cells have": 1 at least, 64 at most, whatever amounts they have. */
    private static void coloursOfAJob() {
        PrePressRoom room = new PrePressRoom();
        Check.due(1, () -> room.separate(2));
        for (int c = 1; c < 64; c++) {
            int colour = c;
            room.box(2, c % 48, c / 48, 1, 1, colour);
            Check.due(colour + 1, () -> room.separate(2));
        }
        room.box(2, 0, 0, 48, 64, 0);
        Check.due(1, () -> room.separate(2));
        room.box(2, 47, 63, 1, 1, 63);
        Check.due(2, () -> room.separate(2));
        room.box(2, 0, 0, 48, 64, 63);
        Check.due(1, () -> room.separate(2));
        room.box(2, 0, 0, 1, 1, 0);
        Check.due(2, () -> room.separate(2));
        Check.due(1, () -> room.separate(1));
    }

    /** Paint, amounts and greys of later are not in the job, but in the next one; other pages' jobs stay. */
    private static void asTheyWereWhenItWasMade() {
        PrePressRoom room = Rooms.with(Rooms.row(0, 0, 10), Rooms.row(0, 1, 10), Rooms.row(0, 2, 10), Rooms.row(1, 3, 200));
        room.separate(0);
        room.separate(1);
        room.box(0, 5, 5, 1, 1, 1);
        Check.due("10 10 10 0", () -> platesAt(room, 0, 5, 5));
        room.colour(0, 0, 20);
        Check.due("10 10 10 0", () -> platesAt(room, 0, 6, 5));
        room.grey(100, 200);
        Check.due("10 10 10 0", () -> platesAt(room, 0, 6, 5));
        room.separate(0);
        Check.due("0 0 0 200", () -> platesAt(room, 0, 5, 5));
        Check.due("10 0 0 10", () -> platesAt(room, 0, 6, 5));
        Check.due("10 10 10 0", () -> platesAt(room, 1, 5, 5));
        Check.due(Check.STATE, () -> room.plate(2, 0, 5, 5));
        // Colours that no cell has are in the job, too: cells of before do not get them, traps do not, either.
        room.colour(2, 2, 255);
        Check.due(0, () -> room.trap(0, 3));
        Check.due("0 0 0 200", () -> platesAt(room, 0, 5, 5));
    }
}
