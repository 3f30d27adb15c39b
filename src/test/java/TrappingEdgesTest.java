/** Terms, and promises 8 and 9: the boundary cases of trapping. */
final class TrappingEdgesTest {
    public static void main(String[] args) {
        sixtyFourOrMore();
        amountsOfTheJob();
        eachHasSomeInk();
        noneThatTheOtherHas();
        equalWeights();
        weightsOfInks();
        lowAmountsWeigh();
        withinTheWidth();
        pageEndsAreNoNeighbours();
        nearestCounts();
        equallyNearLowestColour();
        greaterAmountInkByInk();
        whateverIsTrapped();
        numbersOfTrapped();
        noneAndAllCells();
        anewWithoutTraps();
        Check.end();
    }

    private static int[] row(int c, int ink, int v) {
        return Rooms.row(c, ink, v);
    }

    /** One cell of colour 1 on colour 2: 8 when 1 spreads, 1 when 2 does, 0 when they are not shy. */
    private static int traps(int[]... amounts) {
        return Rooms.ofMarkOnGround(1, 2, amounts).trap(0, 1);
    }

    /** "A colour HAS an ink, when its amount (of the job) is 64 or more": of every ink, on either side. */
    private static void sixtyFourOrMore() {
        for (int i = 0; i < 8; i++) {
            int ink = i;
            int other = i == 3 ? 0 : 3;
            int lighterOfInk = i == 3 ? 1 : 8;
            int lighterOfOther = i == 3 ? 8 : 1;
            Check.due(lighterOfInk, () -> traps(row(1, ink, 64), row(2, other, 200)));
            Check.due(0, () -> traps(row(1, ink, 63), row(2, other, 200)));
            Check.due(lighterOfOther, () -> traps(row(1, other, 200), row(2, ink, 64)));
            Check.due(0, () -> traps(row(1, other, 200), row(2, ink, 63)));
            Check.due(0, () -> traps(row(1, ink, 64), row(2, other, 200), row(2, ink, 64)));
            Check.due(8, () -> traps(row(1, ink, 64), row(2, other, 200), row(2, ink, 63)));
        }
    }

    /** Grey of 100 on a spot ink: with share 36 it has 64 of three inks, with 37 63 of them, with 64 black. */
    private static void amountsOfTheJob() {
        int[][] due = {{0, 8}, {36, 8}, {37, 0}, {63, 0}, {64, 8}, {100, 8}};
        for (int[] of : due) {
            PrePressRoom room = Rooms.with(row(1, 0, 100), row(1, 1, 100), row(1, 2, 100), row(2, 4, 255));
            room.box(0, 0, 0, 48, 64, 2);
            room.box(0, 20, 20, 1, 1, 1);
            room.grey(of[0], 1020);
            room.separate(0);
            room.grey(100 - of[0], 200);
            Check.due(of[1], () -> room.trap(0, 1));
        }
    }

    /** "each has some ink": a colour without any is shy of none. */
    private static void eachHasSomeInk() {
        Check.due(0, () -> traps());
        Check.due(0, () -> traps(row(1, 0, 255)));
        Check.due(0, () -> traps(row(2, 0, 255)));
        Check.due(0, () -> traps(row(1, 0, 63), row(1, 1, 63), row(1, 2, 63), row(1, 3, 63), row(1, 4, 63), row(2, 5, 255)));
        Check.due(8, () -> traps(row(1, 0, 63), row(1, 1, 63), row(1, 2, 64), row(2, 5, 255)));
    }

    /** "but none that the other has, too": one ink in common is enough not to be shy. */
    private static void noneThatTheOtherHas() {
        Check.due(8, () -> traps(row(1, 0, 64), row(1, 1, 64), row(2, 2, 64), row(2, 3, 64)));
        Check.due(0, () -> traps(row(1, 0, 64), row(1, 1, 64), row(2, 1, 64), row(2, 3, 64)));
        Check.due(8, () -> traps(row(1, 0, 64), row(1, 1, 64), row(2, 1, 63), row(2, 3, 64)));
        Check.due(0, () -> traps(row(1, 7, 64), row(2, 7, 64)));
        Check.due(1, () -> traps(row(1, 7, 65), row(2, 6, 64)));
    }

    /** "of equal ones the lower number": 177 * 30 is 90 * 59. */
    private static void equalWeights() {
        Check.due(8, () -> traps(row(1, 0, 177), row(2, 1, 90)));
        Check.due(8, () -> traps(row(1, 1, 90), row(2, 0, 177)));
        Check.due(1, () -> traps(row(1, 0, 178), row(2, 1, 90)));
        Check.due(8, () -> traps(row(1, 0, 176), row(2, 1, 90)));
        Check.due(1, () -> traps(row(1, 0, 177), row(2, 1, 89)));
        Check.due(8, () -> traps(row(1, 0, 177), row(2, 1, 91)));
        PrePressRoom lowerAround = Rooms.ofMarkOnGround(63, 0, row(63, 0, 177), row(0, 1, 90));
        Check.due(1, () -> lowerAround.trap(0, 1));
        Check.due(1 + 63, () -> lowerAround.trapped(0, 20, 20));
        PrePressRoom higherAround = Rooms.ofMarkOnGround(0, 63, row(63, 0, 177), row(0, 1, 90));
        Check.due(8, () -> higherAround.trap(0, 1));
        Check.due(1 + 63, () -> higherAround.trapped(0, 21, 21));
    }

    /** "times 30, 59, 11, 100, and 50 for spot inks": each against another ink, when they weigh the same and beside that. */
    private static void weightsOfInks() {
        int[][] equal = {{0, 250, 3, 75}, {1, 200, 3, 118}, {2, 180, 0, 66}, {4, 200, 3, 100}, {5, 200, 3, 100},
            {6, 200, 3, 100}, {7, 200, 3, 100}};
        for (int[] e : equal) {
            Check.due(8, () -> traps(row(1, e[0], e[1]), row(2, e[2], e[3])));
            Check.due(1, () -> traps(row(1, e[0], e[1] + 1), row(2, e[2], e[3])));
            Check.due(8, () -> traps(row(2, e[0], e[1]), row(1, e[2], e[3])));
            Check.due(1, () -> traps(row(2, e[0], e[1] - 1), row(1, e[2], e[3])));
        }
    }

    /** "the sum of its amounts": of those below 64, too. Yellow and 16 of black are lighter than cyan, with 17 not. */
    private static void lowAmountsWeigh() {
        Check.due(1, () -> traps(row(1, 0, 80), row(2, 2, 64), row(2, 3, 16)));
        Check.due(8, () -> traps(row(1, 0, 80), row(2, 2, 64), row(2, 3, 17)));
        Check.due(1, () -> traps(row(1, 0, 80), row(2, 2, 64), row(2, 4, 33)));
        Check.due(8, () -> traps(row(1, 0, 80), row(2, 2, 64), row(2, 4, 34)));
    }

    /** "within the width (the greater of the distances across and down)". */
    private static void withinTheWidth() {
        for (int width = 1; width <= 3; width++) {
            int w = width;
            PrePressRoom room = Rooms.ofMarkOnGround(1, 2, row(1, 2, 200), row(2, 3, 150));
            Check.due((2 * w + 1) * (2 * w + 1) - 1, () -> room.trap(0, w));
            for (int far = -w - 1; far <= w + 1; far++) {
                int f = far;
                int due = f < -w || f > w ? 0 : 67;
                Check.due(due, () -> room.trapped(0, 20 + f, 20 - w));
                Check.due(due, () -> room.trapped(0, 20 + f, 20 + w));
                Check.due(due, () -> room.trapped(0, 20 - w, 20 + f));
                Check.due(due, () -> room.trapped(0, 20 + w, 20 + f));
                Check.due(0, () -> room.trapped(0, 20 + f, 20 - w - 1));
                Check.due(0, () -> room.trapped(0, 20 + w + 1, 20 + f));
            }
            Check.due(0, () -> room.trapped(0, 20, 20));
        }
    }

    /** A page's last column does not touch its first one, nor its last row the first one. */
    private static void pageEndsAreNoNeighbours() {
        int[][] places = {{0, 0}, {47, 0}, {0, 63}, {47, 63}, {0, 20}, {47, 20}, {20, 0}, {20, 63}};
        for (int width = 1; width <= 3; width++) {
            int w = width;
            for (int[] xy : places) {
                PrePressRoom room = Rooms.with(row(1, 2, 200), row(2, 3, 150));
                room.box(0, 0, 0, 48, 64, 2);
                room.box(0, xy[0], xy[1], 1, 1, 1);
                room.separate(0);
                int across = xy[0] == 20 ? 2 * w + 1 : w + 1;
                int down = xy[1] == 20 ? 2 * w + 1 : w + 1;
                Check.due(across * down - 1, () -> room.trap(0, w));
                Check.due(0, () -> room.trapped(0, 47 - xy[0], xy[1]));
                Check.due(0, () -> room.trapped(0, xy[0], 63 - xy[1]));
            }
        }
    }

    /** Black of colour 9, cyan of 3 and yellow of 5: cyan is the lower number, yellow the lighter one. */
    private static PrePressRoom ofThree(int[] cyan, int[] yellow) {
        PrePressRoom room = Rooms.with(row(9, 3, 255), row(3, 0, 255), row(5, 2, 64));
        room.box(0, 0, 0, 48, 64, 9);
        room.box(0, 20 + cyan[0], 20 + cyan[1], 1, 1, 3);
        room.box(0, 20 + yellow[0], 20 + yellow[1], 1, 1, 5);
        room.separate(0);
        room.trap(0, 3);
        return room;
    }

    /** "of several such cells the nearest counts": whatever its number is, and as the greater distance goes. */
    private static void nearestCounts() {
        int[][][] yellowNearer = {{{2, 0}, {1, 0}}, {{2, 0}, {1, 1}}, {{0, -3}, {2, 2}}, {{-3, 0}, {-2, 2}}, {{0, 2}, {-1, -1}}};
        for (int[][] at : yellowNearer) {
            Check.due(1 + 64 * 5 + 9, () -> ofThree(at[0], at[1]).trapped(0, 20, 20));
            Check.due(1 + 64 * 3 + 9, () -> ofThree(at[1], at[0]).trapped(0, 20, 20));
        }
        Check.due(1 + 64 * 5 + 9, () -> ofThree(new int[] {4, 0}, new int[] {3, 3}).trapped(0, 20, 20));
        Check.due(0, () -> ofThree(new int[] {4, 0}, new int[] {0, -4}).trapped(0, 20, 20));
    }

    /** "of equally near ones the one with the lowest colour": not the lightest, wherever they lie. */
    private static void equallyNearLowestColour() {
        for (int far = 1; far <= 3; far++) {
            int d = far;
            int[][][] pairs = {{{d, 0}, {-d, 0}}, {{0, d}, {0, -d}}, {{d, d}, {0, -d}}, {{-d, d}, {d, 0}}, {{d, -d}, {-d, d}}};
            for (int[][] at : pairs) {
                Check.due(1 + 64 * 3 + 9, () -> ofThree(at[0], at[1]).trapped(0, 20, 20));
                Check.due(1 + 64 * 3 + 9, () -> ofThree(at[1], at[0]).trapped(0, 20, 20));
            }
        }
    }

    /** "Its plates get the greater amount of the two colours, ink by ink". */
    private static void greaterAmountInkByInk() {
        PrePressRoom room = Rooms.ofMarkOnGround(1, 2,
            row(1, 0, 40), row(1, 1, 30), row(1, 2, 200), row(1, 3, 20), row(1, 5, 63),
            row(2, 0, 40), row(2, 1, 31), row(2, 2, 10), row(2, 3, 200), row(2, 4, 50));
        int[] before = {40, 31, 10, 200, 50, 0, 0, 0};
        int[] trapped = {40, 31, 200, 200, 50, 63, 0, 0};
        int[] mark = {40, 30, 200, 20, 0, 63, 0, 0};
        for (int i = 0; i < 8; i++) {
            int ink = i;
            Check.due(before[ink], () -> room.plate(0, ink, 19, 19));
        }
        Check.due(8, () -> room.trap(0, 1));
        for (int i = 0; i < 8; i++) {
            int ink = i;
            Check.due(trapped[ink], () -> room.plate(0, ink, 19, 19));
            Check.due(before[ink], () -> room.plate(0, ink, 18, 19));
            Check.due(mark[ink], () -> room.plate(0, ink, 20, 20));
        }
    }

    /** "Colours are those of the job's cells": cyan with yellow in it is still shy of what has yellow. */
    private static void whateverIsTrapped() {
        for (int width = 1; width <= 3; width++) {
            int w = width;
            PrePressRoom room = Rooms.with(row(1, 2, 255), row(2, 0, 100), row(3, 3, 255), row(3, 2, 64));
            room.box(0, 0, 0, 48, 64, 3);
            room.box(0, 0, 0, 1, 64, 1);
            room.box(0, 1, 0, 1, 64, 2);
            room.separate(0);
            Check.due(64 + 64 * w, () -> room.trap(0, w));
            Check.due(1 + 64 * 1 + 2, () -> room.trapped(0, 1, 63));
            Check.due(1 + 64 * 2 + 3, () -> room.trapped(0, 1 + w, 0));
            Check.due(0, () -> room.trapped(0, 2 + w, 0));
            Check.due(255, () -> room.plate(0, 2, 1, 63));
            Check.due(64, () -> room.plate(0, 2, 2, 63));
        }
    }

    /** "1 + 64 times the lighter colour, plus its own; 0 of others": with the first and the last colours. */
    private static void numbersOfTrapped() {
        int[][] lighterAndOwn = {{0, 1, 2}, {1, 0, 65}, {0, 63, 64}, {63, 0, 4033}, {62, 63, 4032}, {63, 62, 4095}};
        for (int[] of : lighterAndOwn) {
            PrePressRoom room = Rooms.ofMarkOnGround(of[0], of[1], row(of[0], 2, 64), row(of[1], 3, 255));
            Check.due(0, () -> room.trapped(0, 20, 21));
            room.trap(0, 1);
            Check.due(of[2], () -> room.trapped(0, 20, 21));
            Check.due(0, () -> room.trapped(0, 20, 20));
            Check.due(0, () -> room.trapped(0, 20, 22));
        }
    }

    /** As few as none, of a page with one colour, and as many as all that are not lighter. */
    private static void noneAndAllCells() {
        PrePressRoom room = Rooms.with(row(1, 2, 200), row(2, 3, 150));
        room.box(0, 0, 0, 48, 64, 2);
        room.separate(0);
        Check.due(0, () -> room.trap(0, 3));
        for (int x = 3; x < 48; x += 7) {
            room.box(0, x, 0, 1, 64, 1);
        }
        int[] due = {14 * 64, 28 * 64, 41 * 64};
        for (int width = 1; width <= 3; width++) {
            int w = width;
            room.separate(0);
            Check.due(due[w - 1], () -> room.trap(0, w));
        }
    }

    /** "Makes a page's job anew, without traps": of that page alone. */
    private static void anewWithoutTraps() {
        PrePressRoom room = Rooms.ofMarkOnGround(1, 2, row(1, 2, 200), row(2, 3, 150));
        room.box(1, 0, 0, 48, 64, 2);
        room.box(1, 20, 20, 1, 1, 1);
        room.separate(1);
        Check.due(24, () -> room.trap(0, 2));
        Check.due(0, () -> room.trapped(1, 19, 20));
        Check.due(8, () -> room.trap(1, 1));
        Check.due(2, () -> room.separate(0));
        Check.due(0, () -> room.trapped(0, 19, 20));
        Check.due(0, () -> room.plate(0, 2, 19, 20));
        Check.due(67, () -> room.trapped(1, 19, 20));
        Check.due(200, () -> room.plate(1, 2, 19, 20));
        Check.due(8, () -> room.trap(0, 1));
        Check.due(0, () -> room.trapped(0, 18, 20));
        Check.due(Check.STATE, () -> room.trap(1, 1));
    }
}
