import java.util.Arrays;

/** A room that makes pages ready for print: inks, traps, dots and folded sheets. */
public final class PrePressRoom {
    /** Nothing there. */
    public static final int NONE = -1;

    private static final int INKS = 8;
    private static final int PROCESS_INKS = 4;
    private static final int BLACK = 3;
    private static final int FULL = 255;
    private static final int COLOURS = 64;
    private static final int PAGES = 4;
    private static final int WIDE = 48;
    private static final int HIGH = 64;
    private static final int CELLS = WIDE * HIGH;
    private static final int LEAST_LIMIT = 200;
    private static final int MOST_LIMIT = 1020;
    private static final int WIDEST_TRAP = 3;
    private static final int MOST_STEP = 20;
    private static final int MOST_CLASSES = 400;
    private static final int SHAPES = 3;
    private static final int FARTHEST = 1000;
    private static final int MOST_FOLDS = 4;
    private static final int MOST_CREEP = 1000;
    private static final int MOST_LAID = 64;

    private final int[] amounts;
    private final int[][] pages;
    private final Job[] jobs;
    private final Spreader spreader;
    private final Screen[] screens;
    private final Sheets sheets;
    private int blackShare;
    private int inkLimit;

    public PrePressRoom() {
        amounts = new int[COLOURS * INKS];
        pages = new int[PAGES][CELLS];
        jobs = new Job[PAGES];
        for (int page = 0; page < PAGES; page++) {
            jobs[page] = new Job();
        }
        spreader = new Spreader();
        screens = new Screen[INKS];
        Places places = new Places();
        for (int ink = 0; ink < INKS; ink++) {
            screens[ink] = new Screen(places);
        }
        sheets = new Sheets();
        blackShare = 0;
        inkLimit = MOST_LIMIT;
    }

    public int colour(int c, int ink, int v)
            throws IndexOutOfBoundsException, IllegalArgumentException, IllegalStateException {
        needIndex(c, COLOURS);
        needIndex(ink, INKS);
        needBetween(v, 0, FULL);
        if (v > 0 && ink >= PROCESS_INKS && hasOtherSpot(c, ink)) {
            throw new IllegalStateException("another spot ink is above 0");
        }
        int at = c * INKS + ink;
        int before = amounts[at];
        amounts[at] = v;
        return before;
    }

    public int box(int page, int x, int y, int w, int h, int c)
            throws IndexOutOfBoundsException, IllegalArgumentException {
        needIndex(page, PAGES);
        needIndex(c, COLOURS);
        needSpan(x, w, WIDE);
        needSpan(y, h, HIGH);
        int[] cells = pages[page];
        int changed = 0;
        for (int row = y; row < y + h; row++) {
            for (int at = row * WIDE + x; at < row * WIDE + x + w; at++) {
                if (cells[at] != c) {
                    cells[at] = c;
                    changed++;
                }
            }
        }
        return changed;
    }

    public int cell(int page, int x, int y) throws IndexOutOfBoundsException {
        needCell(page, x, y);
        return pages[page][cellAt(x, y)];
    }

    public void grey(int share, int limit) throws IllegalArgumentException {
        needBetween(share, 0, 100);
        needBetween(limit, LEAST_LIMIT, MOST_LIMIT);
        blackShare = share;
        inkLimit = limit;
    }

    public int separate(int page) throws IndexOutOfBoundsException {
        needIndex(page, PAGES);
        return jobs[page].make(pages[page], amounts, blackShare, inkLimit);
    }

    public int plate(int page, int ink, int x, int y) throws IndexOutOfBoundsException, IllegalStateException {
        needIndex(ink, INKS);
        return madeJob(page, x, y).amountAt(cellAt(x, y), ink);
    }

    public int trap(int page, int width)
            throws IndexOutOfBoundsException, IllegalArgumentException, IllegalStateException {
        needIndex(page, PAGES);
        needBetween(width, 1, WIDEST_TRAP);
        Job job = jobs[page];
        if (!job.isMade() || job.isSpread()) {
            throw new IllegalStateException("no job without traps");
        }
        return spreader.spread(job, width);
    }

    public int trapped(int page, int x, int y) throws IndexOutOfBoundsException, IllegalStateException {
        return madeJob(page, x, y).markAt(cellAt(x, y));
    }

    public int screen(int ink, int a, int b, int shape) throws IndexOutOfBoundsException, IllegalArgumentException {
        needIndex(ink, INKS);
        needBetween(a, -MOST_STEP, MOST_STEP);
        needBetween(b, -MOST_STEP, MOST_STEP);
        needBetween(a * a + b * b, 1, MOST_CLASSES);
        needBetween(shape, 0, SHAPES - 1);
        screens[ink].lay(a, b, shape);
        return screens[ink].classCount();
    }

    public int rank(int ink, int x, int y) throws IndexOutOfBoundsException, IllegalArgumentException {
        needIndex(ink, INKS);
        needBetween(x, -FARTHEST, FARTHEST);
        needBetween(y, -FARTHEST, FARTHEST);
        return screens[ink].rankAt(x, y);
    }

    public boolean dot(int page, int ink, int x, int y) throws IndexOutOfBoundsException, IllegalStateException {
        needIndex(ink, INKS);
        return isPrinted(madeJob(page, x, y), ink, x, y);
    }

    public int share(int page, int ink, int x, int y) throws IndexOutOfBoundsException, IllegalStateException {
        needIndex(ink, INKS);
        Job job = madeJob(page, x, y);
        Screen screen = screens[ink];
        int own = screen.rankAt(x, y);
        int moveX = x - screen.heartX(own);
        int moveY = y - screen.heartY(own);
        int dots = 0;
        for (int rank = 0; rank < screen.classCount(); rank++) {
            int placeX = screen.heartX(rank) + moveX;
            int placeY = screen.heartY(rank) + moveY;
            if (!isOnPage(placeX, placeY)) {
                return NONE;
            }
            if (screen.prints(rank, job.amountAt(cellAt(placeX, placeY), ink))) {
                dots++;
            }
        }
        return dots;
    }

    public int proof(int page, int x, int y) throws IndexOutOfBoundsException, IllegalStateException {
        Job job = madeJob(page, x, y);
        int inks = 0;
        for (int ink = 0; ink < INKS; ink++) {
            if (isPrinted(job, ink, x, y)) {
                inks |= 1 << ink;
            }
        }
        return inks;
    }

    public int impose(int pages, int folds, int creep) throws IllegalArgumentException {
        needBetween(folds, 1, MOST_FOLDS);
        needBetween(creep, 0, MOST_CREEP);
        needBetween(pages, 1, MOST_LAID);
        int pagesOfSheet = 2 << folds;
        if (pages % pagesOfSheet != 0) {
            throw new IllegalArgumentException("not whole sheets");
        }
        sheets.lay(pages / pagesOfSheet, folds, creep);
        return sheets.sheetCount();
    }

    public int slot(int sheet, int side, int slot, int what) throws IllegalStateException, IndexOutOfBoundsException {
        needLaid();
        needIndex(sheet, sheets.sheetCount());
        needIndex(side, 2);
        needIndex(slot, sheets.leafCount());
        needIndex(what, 3);
        if (what == 0) {
            return sheets.pageOn(sheet, side, slot);
        }
        return what == 1 ? sheets.turnOf(slot) : sheets.moveOf(slot);
    }

    public int read(int k, int what) throws IllegalStateException, IndexOutOfBoundsException {
        needLaid();
        needIndex(k, 2 * sheets.leafCount());
        needIndex(what, 2);
        return what == 0 ? sheets.slotRead(k) : sheets.sideRead(k);
    }

    private static void needIndex(int index, int bound) {
        if (index < 0 || index >= bound) {
            throw new IndexOutOfBoundsException("no such number");
        }
    }

    private static void needBetween(int value, int least, int most) {
        if (value < least || value > most) {
            throw new IllegalArgumentException("out of its range");
        }
    }

    /** Takes no sum of start and length, as that could wrap round. */
    private static void needSpan(int start, int length, int bound) {
        needBetween(start, 0, bound - 1);
        needBetween(length, 1, bound - start);
    }

    private static void needCell(int page, int x, int y) {
        needIndex(page, PAGES);
        needIndex(x, WIDE);
        needIndex(y, HIGH);
    }

    private void needLaid() {
        if (sheets.sheetCount() == 0) {
            throw new IllegalStateException("nothing is laid");
        }
    }

    private Job madeJob(int page, int x, int y) {
        needCell(page, x, y);
        if (!jobs[page].isMade()) {
            throw new IllegalStateException("the page has no job");
        }
        return jobs[page];
    }

    private static boolean isOnPage(int x, int y) {
        return x >= 0 && x < WIDE && y >= 0 && y < HIGH;
    }

    private static int cellAt(int x, int y) {
        return y * WIDE + x;
    }

    private boolean hasOtherSpot(int c, int ink) {
        for (int other = PROCESS_INKS; other < INKS; other++) {
            if (other != ink && amounts[c * INKS + other] > 0) {
                return true;
            }
        }
        return false;
    }

    private boolean isPrinted(Job job, int ink, int x, int y) {
        Screen screen = screens[ink];
        return screen.prints(screen.rankAt(x, y), job.amountAt(cellAt(x, y), ink));
    }

    /** A page's job: copies, so that later paint, inks and greys leave it alone. */
    private static final class Job {
        private static final int ENOUGH = 64;
        private static final int[] WEIGHTS = {30, 59, 11, 100, 50, 50, 50, 50};

        private final int[] colours;
        private final int[] lighter;
        private final int[] amounts;
        private boolean made;
        private boolean spread;

        Job() {
            colours = new int[CELLS];
            lighter = new int[CELLS];
            amounts = new int[COLOURS * INKS];
        }

        boolean isMade() {
            return made;
        }

        boolean isSpread() {
            return spread;
        }

        void setSpread() {
            spread = true;
        }

        int make(int[] cells, int[] unparted, int blackShare, int limit) {
            System.arraycopy(cells, 0, colours, 0, CELLS);
            System.arraycopy(unparted, 0, amounts, 0, amounts.length);
            Arrays.fill(lighter, NONE);
            for (int c = 0; c < COLOURS; c++) {
                moveToBlack(c * INKS, blackShare);
                keepLimit(c * INKS, limit);
            }
            made = true;
            spread = false;
            return countColours();
        }

        private void moveToBlack(int first, int blackShare) {
            int least = Math.min(amounts[first], Math.min(amounts[first + 1], amounts[first + 2]));
            int grey = Math.min(least * blackShare / 100, FULL - amounts[first + BLACK]);
            for (int ink = 0; ink < BLACK; ink++) {
                amounts[first + ink] -= grey;
            }
            amounts[first + BLACK] += grey;
        }

        private void keepLimit(int first, int limit) {
            int black = amounts[first + BLACK];
            int sum = amounts[first] + amounts[first + 1] + amounts[first + 2];
            if (sum == 0 || sum + black <= limit) {
                return;
            }
            int room = Math.max(limit - black, 0);
            for (int ink = 0; ink < BLACK; ink++) {
                amounts[first + ink] = amounts[first + ink] * room / sum;
            }
        }

        private int countColours() {
            long seen = 0;
            for (int cell = 0; cell < CELLS; cell++) {
                seen |= 1L << colours[cell];
            }
            return Long.bitCount(seen);
        }

        int colourAt(int cell) {
            return colours[cell];
        }

        int lighterAt(int cell) {
            return lighter[cell];
        }

        void setLighter(int cell, int c) {
            lighter[cell] = c;
        }

        int amountAt(int cell, int ink) {
            int own = amounts[colours[cell] * INKS + ink];
            return lighter[cell] == NONE ? own : Math.max(own, amounts[lighter[cell] * INKS + ink]);
        }

        int markAt(int cell) {
            return lighter[cell] == NONE ? 0 : 1 + COLOURS * lighter[cell] + colours[cell];
        }

        /** The inks that a colour has, a bit for each. */
        int inksOf(int c) {
            int inks = 0;
            for (int ink = 0; ink < INKS; ink++) {
                if (amounts[c * INKS + ink] >= ENOUGH) {
                    inks |= 1 << ink;
                }
            }
            return inks;
        }

        int weightOf(int c) {
            int weight = 0;
            for (int ink = 0; ink < INKS; ink++) {
                weight += amounts[c * INKS + ink] * WEIGHTS[ink];
            }
            return weight;
        }
    }

    /**
     * Finds the traps of a job. Colours are bits of a long, so that all cells within a distance
     * are looked at together, and the lowest bit is the lowest colour.
     */
    private static final class Spreader {
        private final int[] inks;
        private final int[] weights;
        private final long[] lighterShy;
        private final long[] near;
        private final long[] across;

        Spreader() {
            inks = new int[COLOURS];
            weights = new int[COLOURS];
            lighterShy = new long[COLOURS];
            near = new long[CELLS];
            across = new long[CELLS];
        }

        int spread(Job job, int width) {
            weigh(job);
            for (int c = 0; c < COLOURS; c++) {
                lighterShy[c] = lighterShyOf(c);
            }
            for (int cell = 0; cell < CELLS; cell++) {
                near[cell] = 1L << job.colourAt(cell);
            }
            int count = 0;
            for (int distance = 1; distance <= width; distance++) {
                widenAcross();
                widenDown();
                count += markReached(job);
            }
            job.setSpread();
            return count;
        }

        private void weigh(Job job) {
            for (int c = 0; c < COLOURS; c++) {
                inks[c] = job.inksOf(c);
                weights[c] = job.weightOf(c);
            }
        }

        private long lighterShyOf(int c) {
            long found = 0;
            for (int other = 0; other < COLOURS; other++) {
                if (isShy(c, other) && isLighter(other, c)) {
                    found |= 1L << other;
                }
            }
            return found;
        }

        private boolean isShy(int c, int other) {
            return inks[c] != 0 && inks[other] != 0 && (inks[c] & inks[other]) == 0;
        }

        private boolean isLighter(int c, int other) {
            return weights[c] < weights[other] || weights[c] == weights[other] && c < other;
        }

        private void widenAcross() {
            for (int cell = 0; cell < CELLS; cell++) {
                int x = cell % WIDE;
                long left = x > 0 ? near[cell - 1] : 0;
                long right = x < WIDE - 1 ? near[cell + 1] : 0;
                across[cell] = left | near[cell] | right;
            }
        }

        private void widenDown() {
            for (int cell = 0; cell < CELLS; cell++) {
                long above = cell >= WIDE ? across[cell - WIDE] : 0;
                long below = cell < CELLS - WIDE ? across[cell + WIDE] : 0;
                near[cell] = above | across[cell] | below;
            }
        }

        /** Cells that were reached from nearer by keep what they have. */
        private int markReached(Job job) {
            int count = 0;
            for (int cell = 0; cell < CELLS; cell++) {
                long reached = near[cell] & lighterShy[job.colourAt(cell)];
                if (reached != 0 && job.lighterAt(cell) == NONE) {
                    job.setLighter(cell, Long.numberOfTrailingZeros(reached));
                    count++;
                }
            }
            return count;
        }
    }

    /**
     * The places that can be hearts. A class has a place with x * x + y * y of at most N / 2, where
     * x and y together are at most the root of N: so by every shape its heart has at most N.
     * A place is kept as one number that rises with y, then with x.
     */
    private static final class Places {
        private static final int SPAN = 2 * MOST_STEP + 1;
        private static final int ROUND = 0;
        private static final int LINE = 1;

        private final int[] byDistance;
        private final int[] byForm;
        private final int[] starts;
        private final int count;

        Places() {
            byDistance = new int[SPAN * SPAN];
            byForm = new int[SPAN * SPAN];
            starts = new int[MOST_CLASSES + 2];
            int found = 0;
            for (int place = 0; place < SPAN * SPAN; place++) {
                if (distanceOf(place) <= MOST_CLASSES) {
                    byDistance[found] = place;
                    found++;
                }
            }
            count = found;
            sortByForm(count, 1, 0, ROUND);
            System.arraycopy(byForm, 0, byDistance, 0, count);
        }

        static int xOf(int place) {
            return place % SPAN - MOST_STEP;
        }

        static int yOf(int place) {
            return place / SPAN - MOST_STEP;
        }

        private static int distanceOf(int place) {
            return xOf(place) * xOf(place) + yOf(place) * yOf(place);
        }

        private static int formOf(int place, int a, int b, int shape) {
            if (shape == ROUND) {
                return distanceOf(place);
            }
            if (shape == LINE) {
                return Math.abs(a * yOf(place) - b * xOf(place));
            }
            return Math.abs(xOf(place)) + Math.abs(yOf(place));
        }

        /** How many of the places have x * x + y * y of at most that. */
        int countWithin(int distance) {
            int within = 0;
            while (within < count && distanceOf(byDistance[within]) <= distance) {
                within++;
            }
            return within;
        }

        /** The first so many places, by their forms and then as hearts of equal forms go. */
        int[] inOrder(int within, int a, int b, int shape) {
            if (shape == ROUND) {
                return byDistance;
            }
            sortByForm(within, a, b, shape);
            return byForm;
        }

        /** Counts the places of each form: that keeps the order of places with equal forms. */
        private void sortByForm(int within, int a, int b, int shape) {
            Arrays.fill(starts, 0);
            for (int i = 0; i < within; i++) {
                starts[formOf(byDistance[i], a, b, shape) + 1]++;
            }
            for (int form = 1; form < starts.length; form++) {
                starts[form] += starts[form - 1];
            }
            for (int i = 0; i < within; i++) {
                int form = formOf(byDistance[i], a, b, shape);
                byForm[starts[form]] = byDistance[i];
                starts[form]++;
            }
        }
    }

    /**
     * An ink's screen. Of a class, one place alone has its y in 0 .. rows - 1 and its x in
     * 0 .. N / rows - 1: the lattice has the places (N / rows, 0) and (shift, rows).
     */
    private static final class Screen {
        private final Places places;
        private final int[] rankOfClass;
        private final int[] heartOfRank;
        private int classes;
        private int rows;
        private int shift;

        Screen(Places places) {
            this.places = places;
            rankOfClass = new int[MOST_CLASSES];
            heartOfRank = new int[MOST_CLASSES];
            lay(4, 0, 0);
        }

        void lay(int a, int b, int shape) {
            classes = a * a + b * b;
            rows = greatestDivisor(a, b);
            shift = shiftOfRows(a, b);
            int within = places.countWithin(classes);
            giveRanks(places.inOrder(within, a, b, shape), within);
        }

        private static int greatestDivisor(int a, int b) {
            int divisor = MOST_STEP;
            while (divisor > 1 && (a % divisor != 0 || b % divisor != 0)) {
                divisor--;
            }
            return divisor;
        }

        private int shiftOfRows(int a, int b) {
            int x = 0;
            while (x < classes && !isOfLattice(x, rows, a, b)) {
                x++;
            }
            return x;
        }

        private boolean isOfLattice(int x, int y, int a, int b) {
            return (a * x + b * y) % classes == 0 && (a * y - b * x) % classes == 0;
        }

        private void giveRanks(int[] order, int within) {
            Arrays.fill(rankOfClass, NONE);
            int given = 0;
            for (int i = 0; i < within && given < classes; i++) {
                int found = classAt(Places.xOf(order[i]), Places.yOf(order[i]));
                if (rankOfClass[found] == NONE) {
                    rankOfClass[found] = given;
                    heartOfRank[given] = order[i];
                    given++;
                }
            }
        }

        private int classAt(int x, int y) {
            int columns = classes / rows;
            int steps = Math.floorDiv(y, rows);
            return (y - steps * rows) * columns + Math.floorMod(x - steps * shift, columns);
        }

        int classCount() {
            return classes;
        }

        int rankAt(int x, int y) {
            return rankOfClass[classAt(x, y)];
        }

        int heartX(int rank) {
            return Places.xOf(heartOfRank[rank]);
        }

        int heartY(int rank) {
            return Places.yOf(heartOfRank[rank]);
        }

        boolean prints(int rank, int amount) {
            return rank < (amount * classes + FULL / 2) / FULL;
        }
    }

    /** Where a leaf lies while its sheet is folded: in which pile, and how many leaves are above it there. */
    private static final class Leaf {
        private int column;
        private int row;
        private int above;
        private int upperSide;
        private int turn;

        void start(int atColumn, int atRow) {
            column = atColumn;
            row = atRow;
            above = 0;
            upperSide = 0;
            turn = 0;
        }

        void foldRightOnLeft(int columns, int pile) {
            if (column < columns / 2) {
                above += pile;
                return;
            }
            column = columns - 1 - column;
            turnOver(pile);
        }

        void foldLowerOnUpper(int rows, int pile) {
            if (row < rows / 2) {
                above += pile;
                return;
            }
            row = rows - 1 - row;
            turnOver(pile);
            turn = 1 - turn;
        }

        private void turnOver(int pile) {
            above = pile - 1 - above;
            upperSide = 1 - upperSide;
        }

        int leavesAbove() {
            return above;
        }

        int sideUp() {
            return upperSide;
        }

        int turnAtEnd() {
            return turn;
        }
    }

    /** All sheets are folded in one way, so one sheet's leaves stand for all. */
    private static final class Sheets {
        private static final int MOST_LEAVES = 1 << MOST_FOLDS;

        private final Leaf[] leafOfSlot;
        private final int[] slotFromTop;
        private int count;
        private int leaves;
        private int creep;

        Sheets() {
            leafOfSlot = new Leaf[MOST_LEAVES];
            for (int slot = 0; slot < MOST_LEAVES; slot++) {
                leafOfSlot[slot] = new Leaf();
            }
            slotFromTop = new int[MOST_LEAVES];
        }

        void lay(int sheetCount, int folds, int wantedCreep) {
            count = sheetCount;
            leaves = 1 << folds;
            creep = wantedCreep;
            int columns = folds < 3 ? 2 : 4;
            for (int slot = 0; slot < leaves; slot++) {
                Leaf leaf = leafOfSlot[slot];
                leaf.start(slot % columns, slot / columns);
                fold(leaf, folds, columns);
                slotFromTop[leaf.leavesAbove()] = slot;
            }
        }

        private void fold(Leaf leaf, int folds, int allColumns) {
            int columns = allColumns;
            int rows = leaves / allColumns;
            int pile = 1;
            for (int time = 1; time <= folds; time++) {
                if (time % 2 == 1) {
                    leaf.foldRightOnLeft(columns, pile);
                    columns /= 2;
                } else {
                    leaf.foldLowerOnUpper(rows, pile);
                    rows /= 2;
                }
                pile *= 2;
            }
        }

        int sheetCount() {
            return count;
        }

        int leafCount() {
            return leaves;
        }

        int pageOn(int sheet, int side, int slot) {
            Leaf leaf = leafOfSlot[slot];
            int within = 2 * leaf.leavesAbove() + (side == leaf.sideUp() ? 0 : 1);
            return sheet * 2 * leaves + within;
        }

        int turnOf(int slot) {
            return leafOfSlot[slot].turnAtEnd();
        }

        int moveOf(int slot) {
            int deepest = leaves / 2 - 1;
            if (deepest < 1) {
                return 0;
            }
            int above = leafOfSlot[slot].leavesAbove();
            return creep * Math.min(above, leaves - 1 - above) / deepest;
        }

        int slotRead(int k) {
            return slotFromTop[k / 2];
        }

        int sideRead(int k) {
            int sideUp = leafOfSlot[slotRead(k)].sideUp();
            return k % 2 == 0 ? sideUp : 1 - sideUp;
        }
    }
}
