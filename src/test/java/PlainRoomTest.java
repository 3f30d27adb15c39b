import java.util.Random;

/** All promises: long runs of calls, each answered by the program and by the plain room. */
final class PlainRoomTest {
    private static final int RUNS = 120;
    private static final int CALLS = 512;

    private final Random random;
    private final PrePressRoom room = new PrePressRoom();
    private final PlainRoom plain = new PlainRoom();
    private final boolean wild;
    private final boolean fewColours;
    private String call;

    private PlainRoomTest(int run) {
        random = new Random(run);
        wild = run % 4 == 3;
        fewColours = run % 2 == 0;
    }

    public static void main(String[] args) {
        for (int run = 0; run < RUNS && !Check.anyWrong(); run++) {
            new PlainRoomTest(run).run(run);
        }
        everyLattice();
        Check.end();
    }

    private void run(int run) {
        for (int i = 0; i < CALLS; i++) {
            int kind = i < 60 ? random.nextInt(5) : random.nextInt(20);
            String[] answers = answers(kind);
            Check.compare("run " + run + " call " + i + " " + call, answers[0], answers[1]);
        }
    }

    /** Mostly a number of the range, at times one beside it, in wild runs any number. */
    private int pick(int least, int most) {
        int luck = random.nextInt(wild ? 20 : 200);
        if (luck == 0) {
            int[] odd = {least - 1, most + 1, Integer.MIN_VALUE, Integer.MAX_VALUE, -1, random.nextInt()};
            return odd[random.nextInt(odd.length)];
        }
        return luck < 3 ? (random.nextBoolean() ? least : most) : least + random.nextInt(most - least + 1);
    }

    private int colourNumber() {
        return fewColours ? pick(0, 63) % 6 : pick(0, 63);
    }

    private int amount() {
        int[] edges = {0, 63, 64, 255, 0, 100};
        return random.nextInt(3) > 0 ? edges[random.nextInt(edges.length)] : pick(0, 255);
    }

    private int pageNumber() {
        return random.nextInt(3) > 0 ? pick(0, 3) % 2 : pick(0, 3);
    }

    private String[] answers(int kind) {
        switch (kind) {
            case 0: case 1: return ofColour(colourNumber(), pick(0, 7), amount());
            case 2: case 3: case 4: return ofBox(pageNumber(), pick(0, 47), pick(0, 63));
            case 5: return ofGrey(pick(0, 100), random.nextBoolean() ? pick(200, 1020) : pick(200, 400));
            case 6: return ofPage(pageNumber());
            case 7: return ofTrap(pageNumber(), pick(1, 3));
            case 8: return ofScreen(pick(0, 7), pick(-20, 20) / (1 + random.nextInt(4)), pick(-20, 20) / (1 + random.nextInt(4)), pick(0, 2));
            case 9: return ofRank(pick(0, 7), pick(-1000, 1000), pick(-1000, 1000));
            case 10: return ofImpose(4 * pick(1, 16), pick(1, 4), pick(0, 1000));
            case 11: case 12: return ofSlot(pick(0, 3), pick(0, 1), pick(0, 7), pick(0, 2));
            case 13: return ofRead(pick(0, 31), pick(0, 1));
            default: return ofCell(kind, pageNumber(), pick(0, 7), pick(0, 47), pick(0, 63));
        }
    }

    private String[] ofColour(int c, int ink, int v) {
        call = "colour " + c + " " + ink + " " + v;
        return both(() -> room.colour(c, ink, v), () -> plain.colour(c, ink, v));
    }

    private String[] ofBox(int page, int x, int y) {
        int w = random.nextInt(3) > 0 ? random.nextInt(Math.min(8, Math.max(1, 48 - x % 48))) + 1 : pick(1, 48);
        int h = random.nextInt(3) > 0 ? random.nextInt(Math.min(8, Math.max(1, 64 - y % 64))) + 1 : pick(1, 64);
        int c = colourNumber();
        call = "box " + page + " " + x + " " + y + " " + w + " " + h + " " + c;
        return both(() -> room.box(page, x, y, w, h, c), () -> plain.box(page, x, y, w, h, c));
    }

    private String[] ofGrey(int share, int limit) {
        call = "grey " + share + " " + limit;
        return new String[] {Check.answer(() -> { room.grey(share, limit); }), Check.answer(() -> { plain.grey(share, limit); })};
    }

    private String[] ofPage(int page) {
        call = "separate " + page;
        return both(() -> room.separate(page), () -> plain.separate(page));
    }

    private String[] ofTrap(int page, int width) {
        call = "trap " + page + " " + width;
        return both(() -> room.trap(page, width), () -> plain.trap(page, width));
    }

    private String[] ofScreen(int ink, int a, int b, int shape) {
        call = "screen " + ink + " " + a + " " + b + " " + shape;
        return both(() -> room.screen(ink, a, b, shape), () -> plain.screen(ink, a, b, shape));
    }

    private String[] ofRank(int ink, int x, int y) {
        call = "rank " + ink + " " + x + " " + y;
        return both(() -> room.rank(ink, x, y), () -> plain.rank(ink, x, y));
    }

    private String[] ofImpose(int pages, int folds, int creep) {
        call = "impose " + pages + " " + folds + " " + creep;
        return both(() -> room.impose(pages, folds, creep), () -> plain.impose(pages, folds, creep));
    }

    private String[] ofSlot(int sheet, int side, int slot, int what) {
        call = "slot " + sheet + " " + side + " " + slot + " " + what;
        return both(() -> room.slot(sheet, side, slot, what), () -> plain.slot(sheet, side, slot, what));
    }

    private String[] ofRead(int k, int what) {
        call = "read " + k + " " + what;
        return both(() -> room.read(k, what), () -> plain.read(k, what));
    }

    private String[] ofCell(int kind, int page, int ink, int x, int y) {
        call = "cell kind " + kind + ": " + page + " " + ink + " " + x + " " + y;
        switch (kind) {
            case 14: return both(() -> room.cell(page, x, y), () -> plain.cell(page, x, y));
            case 15: return both(() -> room.plate(page, ink, x, y), () -> plain.plate(page, ink, x, y));
            case 16: return both(() -> room.trapped(page, x, y), () -> plain.trapped(page, x, y));
            case 17: return both(() -> room.dot(page, ink, x, y), () -> plain.dot(page, ink, x, y));
            case 18: return both(() -> room.share(page, ink, x, y), () -> plain.share(page, ink, x, y));
            default: return both(() -> room.proof(page, x, y), () -> plain.proof(page, x, y));
        }
    }

    private static String[] both(Check.Call one, Check.Call two) {
        return new String[] {Check.answer(one), Check.answer(two)};
    }

    /** Every lattice that is allowed, with every shape: the ranks of places all over. */
    private static void everyLattice() {
        for (int a = -20; a <= 20; a++) {
            for (int b = -20; b <= 20; b++) {
                int n = a * a + b * b;
                // The signs and the order of a and b are gone through with the smaller lattices alone, to save time.
                if (n == 0 || n > 400 || n > 40 && (a < 0 || b < 0 || (a + b) % 4 != 0)) {
                    continue;
                }
                PrePressRoom room = new PrePressRoom();
                PlainRoom plain = new PlainRoom();
                for (int shape = 0; shape < 3; shape++) {
                    room.screen(0, a, b, shape);
                    plain.screen(0, a, b, shape);
                    for (int k = 0; k < 40; k++) {
                        int x = k * 37 % 61 - 30;
                        int y = k * 23 % 59 - 29;
                        Check.compare("rank by " + a + " " + b + " " + shape + " of " + x + " " + y,
                            String.valueOf(room.rank(0, x, y)), String.valueOf(plain.rank(0, x, y)));
                    }
                }
            }
        }
    }
}
