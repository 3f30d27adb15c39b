/** Promises 8 and 9: trap and trapped. */
final class TrapTest {
    public static void main(String[] args) {
        widths();
        shyness();
        lighterOnes();
        separatedInksCount();
        nearestThenLowest();
        trapsDoNotSpreadOn();
        borders();
        colourZeroAndCorners();
        wrongInputs();
        Check.end();
    }

    /** Colour 1 is yellow, the lighter one, on a black page of colour 2. */
    private static void widths() {
        int[] due = {8, 24, 48};
        for (int width = 1; width <= 3; width++) {
            int w = width;
            PrePressRoom room = Rooms.with(new int[] {1, 2, 200}, new int[] {2, 3, 150});
            room.box(0, 0, 0, 48, 64, 2);
            room.box(0, 20, 20, 1, 1, 1);
            room.separate(0);
            Check.due(0, () -> room.trapped(0, 19, 19));
            Check.due(due[w - 1], () -> room.trap(0, w));
            Check.due(1 + 64 + 2, () -> room.trapped(0, 20 + w, 20 - w));
            Check.due(0, () -> room.trapped(0, 20 + w + 1, 20));
            Check.due(0, () -> room.trapped(0, 20, 20 - w - 1));
            Check.due(0, () -> room.trapped(0, 20, 20));
            Check.due(200, () -> room.plate(0, 2, 20 - w, 20));
            Check.due(150, () -> room.plate(0, 3, 20 - w, 20));
            Check.due(0, () -> room.plate(0, 3, 20, 20));
            Check.due(0, () -> room.plate(0, 2, 20 - w - 1, 20));
            Check.due(Check.STATE, () -> room.trap(0, w));
            Check.due(2, () -> room.separate(0));
            Check.due(0, () -> room.trapped(0, 20 + w, 20 - w));
            Check.due(0, () -> room.plate(0, 2, 20 - w, 20));
            Check.due(due[3 - w], () -> room.trap(0, 4 - w));
        }
    }

    private static int trapsOfTwo(int[]... amounts) {
        return Rooms.ofMarkOnGround(1, 2, amounts).trap(0, 1);
    }

    private static void shyness() {
        Check.due(8, () -> trapsOfTwo(new int[] {1, 2, 64}, new int[] {2, 0, 64}));
        Check.due(0, () -> trapsOfTwo(new int[] {1, 2, 63}, new int[] {2, 0, 64}));
        Check.due(0, () -> trapsOfTwo(new int[] {1, 2, 64}, new int[] {2, 0, 63}));
        Check.due(0, () -> trapsOfTwo(new int[] {1, 2, 64}, new int[] {2, 0, 64}, new int[] {2, 2, 64}));
        Check.due(8, () -> trapsOfTwo(new int[] {1, 2, 64}, new int[] {2, 0, 64}, new int[] {2, 2, 63}));
        Check.due(8, () -> trapsOfTwo(new int[] {1, 4, 64}, new int[] {2, 5, 65}));
        Check.due(0, () -> trapsOfTwo(new int[] {1, 4, 64}, new int[] {2, 4, 65}));
        Check.due(0, () -> trapsOfTwo(new int[] {2, 3, 200}));
        // Traps again, that find no cell, are traps all the same.
        PrePressRoom room = new PrePressRoom();
        room.separate(1);
        Check.due(0, () -> room.trap(1, 1));
        Check.due(Check.STATE, () -> room.trap(1, 1));
    }

    /** One cell of colour 1 among colour 2: the eight round it are trapped, or it is. */
    private static void lighterOnes() {
        Check.due(8, () -> trapsOfTwo(new int[] {1, 0, 100}, new int[] {2, 1, 51}, new int[] {2, 3, 64}));
        Check.due(1, () -> trapsOfTwo(new int[] {1, 1, 100}, new int[] {2, 0, 196}));
        Check.due(8, () -> trapsOfTwo(new int[] {1, 1, 100}, new int[] {2, 0, 197}));
        Check.due(1, () -> trapsOfTwo(new int[] {1, 3, 64}, new int[] {2, 1, 108}));
        Check.due(8, () -> trapsOfTwo(new int[] {1, 3, 64}, new int[] {2, 1, 109}));
        Check.due(1, () -> trapsOfTwo(new int[] {1, 0, 100}, new int[] {2, 2, 255}));
        Check.due(8, () -> trapsOfTwo(new int[] {1, 0, 93}, new int[] {2, 2, 255}));
        for (int ink = 4; ink < 8; ink++) {
            int spot = ink;
            Check.due(1, () -> trapsOfTwo(new int[] {1, 3, 100}, new int[] {2, spot, 199}));
            Check.due(8, () -> trapsOfTwo(new int[] {1, 3, 100}, new int[] {2, spot, 200}));
            Check.due(8, () -> trapsOfTwo(new int[] {1, spot, 200}, new int[] {2, 3, 100}));
            Check.due(1, () -> trapsOfTwo(new int[] {1, spot, 201}, new int[] {2, 3, 100}));
        }
        // Amounts that are too low for an ink weigh all the same.
        Check.due(8, () -> trapsOfTwo(new int[] {1, 0, 80}, new int[] {2, 2, 64}, new int[] {2, 3, 63}));
    }

    /** Colour 1 alone is black of 100 after separating, and shy of the cyan of colour 2. */
    private static void separatedInksCount() {
        PrePressRoom room = Rooms.with(new int[] {1, 0, 100}, new int[] {1, 1, 100}, new int[] {1, 2, 100},
            new int[] {2, 0, 255});
        room.box(0, 0, 0, 48, 64, 2);
        room.box(0, 20, 20, 1, 1, 1);
        room.separate(0);
        Check.due(0, () -> room.trap(0, 1));
        room.grey(100, 1020);
        room.separate(0);
        room.grey(0, 1020);
        room.colour(1, 3, 1);
        room.box(0, 0, 0, 48, 64, 0);
        Check.due(1, () -> room.trap(0, 1));
        Check.due(1 + 64 * 2 + 1, () -> room.trapped(0, 20, 20));
        Check.due(255, () -> room.plate(0, 0, 20, 20));
        Check.due(100, () -> room.plate(0, 3, 20, 20));
        Check.due(0, () -> room.plate(0, 1, 20, 20));
    }

    /** Black of colour 9 between yellow of 5 and 3 and cyan of 7, all lighter. */
    private static void nearestThenLowest() {
        PrePressRoom room = Rooms.with(new int[] {9, 3, 255}, new int[] {5, 2, 100}, new int[] {3, 2, 90},
            new int[] {7, 0, 80});
        room.box(0, 0, 0, 48, 64, 9);
        room.box(0, 10, 10, 1, 1, 7);
        room.box(0, 13, 10, 1, 1, 5);
        room.box(0, 10, 13, 1, 1, 3);
        room.separate(0);
        room.trap(0, 3);
        Check.due(1 + 64 * 7 + 9, () -> room.trapped(0, 11, 10));
        Check.due(1 + 64 * 5 + 9, () -> room.trapped(0, 12, 10));
        Check.due(1 + 64 * 5 + 9, () -> room.trapped(0, 12, 11));
        Check.due(1 + 64 * 3 + 9, () -> room.trapped(0, 12, 12));
        Check.due(1 + 64 * 3 + 9, () -> room.trapped(0, 10, 12));
        Check.due(1 + 64 * 3 + 9, () -> room.trapped(0, 13, 13));
        Check.due(1 + 64 * 7 + 9, () -> room.trapped(0, 11, 11));
        Check.due(90, () -> room.plate(0, 2, 12, 12));
        Check.due(0, () -> room.plate(0, 0, 12, 12));
        Check.due(255, () -> room.plate(0, 3, 12, 12));
        // Of cyan and yellow the yellow is lighter, and they are shy of one another.
        Check.due(1 + 64 * 3 + 7, () -> room.trapped(0, 10, 10));
        Check.due(80, () -> room.plate(0, 0, 10, 10));
        Check.due(90, () -> room.plate(0, 2, 10, 10));
        Check.due(0, () -> room.trapped(0, 13, 10));
        Check.due(0, () -> room.trapped(0, 10, 13));
    }

    /** Yellow spreads under cyan, but not through it; nor does cyan that has yellow below spread less. */
    private static void trapsDoNotSpreadOn() {
        PrePressRoom room = Rooms.with(new int[] {1, 2, 255}, new int[] {2, 0, 100}, new int[] {3, 3, 255},
            new int[] {3, 2, 64});
        room.box(0, 0, 0, 48, 64, 3);
        room.box(0, 0, 0, 1, 64, 1);
        room.box(0, 1, 0, 1, 64, 2);
        room.separate(0);
        Check.due(128, () -> room.trap(0, 1));
        Check.due(1 + 64 * 1 + 2, () -> room.trapped(0, 1, 30));
        Check.due(1 + 64 * 2 + 3, () -> room.trapped(0, 2, 30));
        Check.due(64, () -> room.plate(0, 2, 2, 30));
        Check.due(100, () -> room.plate(0, 0, 2, 30));
        Check.due(0, () -> room.trapped(0, 0, 30));
    }

    /** Cells at the end of one row and the start of the next are no neighbours. */
    private static void borders() {
        PrePressRoom room = Rooms.with(new int[] {1, 2, 200}, new int[] {2, 3, 150});
        room.box(0, 0, 0, 48, 64, 2);
        room.box(0, 47, 10, 1, 1, 1);
        room.box(0, 0, 0, 1, 1, 1);
        room.box(0, 20, 63, 1, 1, 1);
        room.separate(0);
        Check.due(5 + 3 + 5, () -> room.trap(0, 1));
        Check.due(0, () -> room.trapped(0, 0, 10));
        Check.due(0, () -> room.trapped(0, 0, 11));
        Check.due(67, () -> room.trapped(0, 1, 1));
        Check.due(67, () -> room.trapped(0, 46, 9));
        Check.due(0, () -> room.trapped(0, 47, 63));
        Check.due(0, () -> room.trapped(0, 20, 0));
    }

    /** Colour 0 spreads and is spread into as any other, and the page's corners are cells as any other. */
    private static void colourZeroAndCorners() {
        PrePressRoom room = Rooms.with(new int[] {0, 2, 200}, new int[] {63, 3, 150});
        room.box(0, 0, 0, 48, 64, 63);
        room.box(0, 1, 1, 46, 62, 0);
        room.separate(0);
        Check.due(2 * 48 + 2 * 62, () -> room.trap(0, 1));
        Check.due(1 + 63, () -> room.trapped(0, 0, 0));
        Check.due(1 + 63, () -> room.trapped(0, 47, 63));
        Check.due(0, () -> room.trapped(0, 1, 1));
        room.colour(0, 2, 0);
        room.colour(0, 3, 160);
        room.colour(63, 3, 0);
        room.colour(63, 2, 64);
        room.separate(0);
        Check.due(2 * 46 + 2 * 60, () -> room.trap(0, 1));
        Check.due(1 + 64 * 63, () -> room.trapped(0, 46, 62));
        room.box(0, 0, 0, 48, 64, 63);
        room.separate(0);
        Check.due(0, () -> room.trap(0, 3));
        room.colour(0, 3, 0);
        room.colour(0, 2, 100);
        room.colour(63, 3, 150);
        room.colour(63, 2, 0);
        room.separate(0);
        Check.due(0, () -> room.trap(0, 3));
    }

    private static void wrongInputs() {
        PrePressRoom room = new PrePressRoom();
        room.separate(0);
        for (int page : new int[] {-1, 4, Integer.MIN_VALUE, Integer.MAX_VALUE}) {
            Check.due(Check.INDEX, () -> room.trap(page, 1));
            Check.due(Check.INDEX, () -> room.trap(page, 0));
            Check.due(Check.INDEX, () -> room.trapped(page, 0, 0));
        }
        for (int width : new int[] {0, 4, -1, Integer.MIN_VALUE, Integer.MAX_VALUE}) {
            Check.due(Check.ARGUMENT, () -> room.trap(0, width));
            Check.due(Check.ARGUMENT, () -> room.trap(1, width));
        }
        Check.due(Check.STATE, () -> room.trap(1, 3));
        Check.due(Check.STATE, () -> room.trapped(1, 47, 63));
        for (int page = 0; page < 2; page++) {
            int p = page;
            Check.due(Check.INDEX, () -> room.trapped(p, -1, 0));
            Check.due(Check.INDEX, () -> room.trapped(p, 48, 0));
            Check.due(Check.INDEX, () -> room.trapped(p, 0, -1));
            Check.due(Check.INDEX, () -> room.trapped(p, 0, 64));
        }
        Check.due(0, () -> room.trap(0, 3));
    }
}
