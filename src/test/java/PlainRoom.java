import java.util.ArrayList;
import java.util.Comparator;
import java.util.HashMap;
import java.util.HashSet;
import java.util.List;
import java.util.Map;
import java.util.Set;

/** The document's words over again, in the slowest and plainest way, to compare answers with. */
final class PlainRoom {
    private record Place(int x, int y) { }

    private record Lattice(int a, int b, int shape) { }

    private record Job(int[][] cells, int[][] amounts, Map<Place, Integer> lighter, boolean[] trapped) { }

    private record Leaf(int slot, boolean over, boolean turned) { }

    private record Sheets(int count, int folds, int creep, List<Leaf> fromTop) { }

    private static final Map<Lattice, List<Place>> HEARTS = new HashMap<>();

    private final int[][] amounts = new int[64][8];
    private final int[][][] pages = new int[4][48][64];
    private final Job[] jobs = new Job[4];
    private final Lattice[] screens = new Lattice[8];
    private Sheets sheets = null;
    private int share = 0;
    private int limit = 1020;

    PlainRoom() {
        java.util.Arrays.fill(screens, new Lattice(4, 0, 0));
    }

    private static void index(boolean fine) {
        if (!fine) {
            throw new IndexOutOfBoundsException();
        }
    }

    private static void argument(boolean fine) {
        if (!fine) {
            throw new IllegalArgumentException();
        }
    }

    private static void state(boolean fine) {
        if (!fine) {
            throw new IllegalStateException();
        }
    }

    private static boolean in(long value, long least, long most) {
        return value >= least && value <= most;
    }

    private static boolean isCell(long x, long y) {
        return in(x, 0, 47) && in(y, 0, 63);
    }

    int colour(int c, int ink, int v) {
        index(in(c, 0, 63) && in(ink, 0, 7));
        argument(in(v, 0, 255));
        int spots = 0;
        for (int other = 4; other < 8; other++) {
            spots += other == ink ? 0 : amounts[c][other];
        }
        state(v == 0 || ink < 4 || spots == 0);
        int before = amounts[c][ink];
        amounts[c][ink] = v;
        return before;
    }

    int box(int page, int x, int y, int w, int h, int c) {
        index(in(page, 0, 3) && in(c, 0, 63));
        argument(w >= 1 && h >= 1 && isCell(x, y) && isCell((long) x + w - 1, (long) y + h - 1));
        int others = 0;
        for (int i = x; i < x + w; i++) {
            for (int j = y; j < y + h; j++) {
                others += pages[page][i][j] == c ? 0 : 1;
                pages[page][i][j] = c;
            }
        }
        return others;
    }

    int cell(int page, int x, int y) {
        index(in(page, 0, 3) && isCell(x, y));
        return pages[page][x][y];
    }

    void grey(int newShare, int newLimit) {
        argument(in(newShare, 0, 100) && in(newLimit, 200, 1020));
        share = newShare;
        limit = newLimit;
    }

    private int[] separated(int[] colour) {
        int[] parted = colour.clone();
        int g = Math.min(colour[0], Math.min(colour[1], colour[2])) * share / 100;
        g = Math.min(g, 255 - colour[3]);
        parted[3] += g;
        for (int ink = 0; ink < 3; ink++) {
            parted[ink] -= g;
        }
        int three = parted[0] + parted[1] + parted[2];
        if (three + parted[3] > limit) {
            for (int ink = 0; ink < 3; ink++) {
                parted[ink] = three == 0 ? 0 : parted[ink] * Math.max(0, limit - parted[3]) / three;
            }
        }
        return parted;
    }

    int separate(int page) {
        index(in(page, 0, 3));
        int[][] cells = new int[48][];
        Set<Integer> colours = new HashSet<>();
        for (int x = 0; x < 48; x++) {
            cells[x] = pages[page][x].clone();
            for (int c : cells[x]) {
                colours.add(c);
            }
        }
        int[][] parted = new int[64][];
        for (int c = 0; c < 64; c++) {
            parted[c] = separated(amounts[c]);
        }
        jobs[page] = new Job(cells, parted, new HashMap<>(), new boolean[1]);
        return colours.size();
    }

    private Job job(int page, int ink, int x, int y) {
        index(in(page, 0, 3) && in(ink, 0, 7) && isCell(x, y));
        state(jobs[page] != null);
        return jobs[page];
    }

    int plate(int page, int ink, int x, int y) {
        Job job = job(page, ink, x, y);
        int own = job.amounts[job.cells[x][y]][ink];
        Integer lighter = job.lighter.get(new Place(x, y));
        return lighter == null ? own : Math.max(own, job.amounts[lighter][ink]);
    }

    private static boolean shy(int[] one, int[] two) {
        boolean oneHas = false;
        boolean twoHas = false;
        boolean both = false;
        for (int ink = 0; ink < 8; ink++) {
            oneHas |= one[ink] >= 64;
            twoHas |= two[ink] >= 64;
            both |= one[ink] >= 64 && two[ink] >= 64;
        }
        return oneHas && twoHas && !both;
    }

    private static int weight(int[] c) {
        return c[0] * 30 + c[1] * 59 + c[2] * 11 + c[3] * 100 + (c[4] + c[5] + c[6] + c[7]) * 50;
    }

    private static boolean lighter(Job job, int one, int two) {
        int difference = weight(job.amounts[one]) - weight(job.amounts[two]);
        return difference < 0 || difference == 0 && one < two;
    }

    int trap(int page, int width) {
        index(in(page, 0, 3));
        argument(in(width, 1, 3));
        state(jobs[page] != null && !jobs[page].trapped[0]);
        Job job = jobs[page];
        job.trapped[0] = true;
        for (int x = 0; x < 48; x++) {
            for (int y = 0; y < 64; y++) {
                trapCell(job, x, y, width);
            }
        }
        return job.lighter.size();
    }

    private static void trapCell(Job job, int x, int y, int width) {
        int own = job.cells[x][y];
        int nearest = Integer.MAX_VALUE;
        int lowest = -1;
        for (int i = x - width; i <= x + width; i++) {
            for (int j = y - width; j <= y + width; j++) {
                if (!isCell(i, j)) {
                    continue;
                }
                int other = job.cells[i][j];
                int far = Math.max(Math.abs(i - x), Math.abs(j - y));
                if (other == own || !shy(job.amounts[own], job.amounts[other]) || !lighter(job, other, own)) {
                    continue;
                }
                if (far < nearest || far == nearest && other < lowest) {
                    nearest = far;
                    lowest = other;
                }
            }
        }
        if (lowest >= 0) {
            job.lighter.put(new Place(x, y), lowest);
        }
    }

    int trapped(int page, int x, int y) {
        Job job = job(page, 0, x, y);
        Integer lighter = job.lighter.get(new Place(x, y));
        return lighter == null ? 0 : 1 + 64 * lighter + job.cells[x][y];
    }

    int screen(int ink, int a, int b, int shape) {
        index(in(ink, 0, 7));
        argument(in(a, -20, 20) && in(b, -20, 20) && in(a * a + b * b, 1, 400) && in(shape, 0, 2));
        screens[ink] = new Lattice(a, b, shape);
        return a * a + b * b;
    }

    private static int form(Lattice l, Place p) {
        if (l.shape == 0) {
            return p.x * p.x + p.y * p.y;
        }
        return l.shape == 1 ? Math.abs(l.a * p.y - l.b * p.x) : Math.abs(p.x) + Math.abs(p.y);
    }

    private static boolean sameClass(Lattice l, Place p, Place q) {
        int x = p.x - q.x;
        int y = p.y - q.y;
        int n = l.a * l.a + l.b * l.b;
        int i = Math.floorDiv(l.a * x + l.b * y, n);
        int j = Math.floorDiv(l.a * y - l.b * x, n);
        return x == i * l.a - j * l.b && y == i * l.b + j * l.a;
    }

    /** Looks far beyond where a heart can be, so that the program's bound is tested, too. */
    private static List<Place> hearts(Lattice l) {
        if (HEARTS.containsKey(l)) {
            return HEARTS.get(l);
        }
        List<Place> all = new ArrayList<>();
        for (int x = -33; x <= 33; x++) {
            for (int y = -33; y <= 33; y++) {
                all.add(new Place(x, y));
            }
        }
        all.sort(Comparator.<Place>comparingInt(p -> form(l, p)).thenComparingInt(p -> p.x * p.x + p.y * p.y)
            .thenComparingInt(Place::y).thenComparingInt(Place::x));
        List<Place> hearts = new ArrayList<>();
        for (Place p : all) {
            if (hearts.stream().noneMatch(heart -> sameClass(l, p, heart))) {
                hearts.add(p);
            }
        }
        HEARTS.put(l, hearts);
        return hearts;
    }

    int rank(int ink, int x, int y) {
        index(in(ink, 0, 7));
        argument(in(x, -1000, 1000) && in(y, -1000, 1000));
        List<Place> hearts = hearts(screens[ink]);
        Place place = new Place(x, y);
        int rank = 0;
        while (!sameClass(screens[ink], place, hearts.get(rank))) {
            rank++;
        }
        return rank;
    }

    boolean dot(int page, int ink, int x, int y) {
        int v = plate(page, ink, x, y);
        return rank(ink, x, y) < (v * hearts(screens[ink]).size() + 127) / 255;
    }

    int share(int page, int ink, int x, int y) {
        job(page, ink, x, y);
        List<Place> hearts = hearts(screens[ink]);
        Place own = hearts.get(rank(ink, x, y));
        int dots = 0;
        for (Place heart : hearts) {
            int i = heart.x + x - own.x;
            int j = heart.y + y - own.y;
            if (!isCell(i, j)) {
                return -1;
            }
            dots += dot(page, ink, i, j) ? 1 : 0;
        }
        return dots;
    }

    int proof(int page, int x, int y) {
        job(page, 0, x, y);
        int inks = 0;
        for (int ink = 0; ink < 8; ink++) {
            inks += dot(page, ink, x, y) ? (int) Math.pow(2, ink) : 0;
        }
        return inks;
    }

    int impose(int laid, int folds, int creep) {
        argument(in(folds, 1, 4) && in(creep, 0, 1000) && in(laid, 1, 64));
        int[] columns = {0, 2, 2, 4, 4};
        int[] rows = {0, 1, 2, 2, 4};
        int ofSheet = 2 * columns[folds] * rows[folds];
        argument(laid % ofSheet == 0);
        List<List<List<Leaf>>> piles = new ArrayList<>();
        for (int row = 0; row < rows[folds]; row++) {
            piles.add(new ArrayList<>());
            for (int column = 0; column < columns[folds]; column++) {
                piles.get(row).add(List.of(new Leaf(row * columns[folds] + column, false, false)));
            }
        }
        for (int time = 1; time <= folds; time++) {
            piles = time % 2 == 1 ? rightOnLeft(piles) : lowerOnUpper(piles);
        }
        sheets = new Sheets(laid / ofSheet, folds, creep, piles.get(0).get(0));
        return sheets.count;
    }

    private static List<Leaf> turnedOver(List<Leaf> pile, boolean upsideDown) {
        List<Leaf> over = new ArrayList<>();
        for (Leaf leaf : pile) {
            over.add(0, new Leaf(leaf.slot, !leaf.over, leaf.turned ^ upsideDown));
        }
        return over;
    }

    private static List<List<List<Leaf>>> rightOnLeft(List<List<List<Leaf>>> piles) {
        List<List<List<Leaf>>> folded = new ArrayList<>();
        for (List<List<Leaf>> row : piles) {
            List<List<Leaf>> half = new ArrayList<>();
            for (int column = 0; column < row.size() / 2; column++) {
                List<Leaf> pile = turnedOver(row.get(row.size() - 1 - column), false);
                pile.addAll(row.get(column));
                half.add(pile);
            }
            folded.add(half);
        }
        return folded;
    }

    private static List<List<List<Leaf>>> lowerOnUpper(List<List<List<Leaf>>> piles) {
        List<List<List<Leaf>>> folded = new ArrayList<>();
        for (int row = 0; row < piles.size() / 2; row++) {
            List<List<Leaf>> half = new ArrayList<>();
            for (int column = 0; column < piles.get(row).size(); column++) {
                List<Leaf> pile = turnedOver(piles.get(piles.size() - 1 - row).get(column), true);
                pile.addAll(piles.get(row).get(column));
                half.add(pile);
            }
            folded.add(half);
        }
        return folded;
    }

    int slot(int sheet, int side, int slot, int what) {
        state(sheets != null);
        int leaves = sheets.fromTop.size();
        index(in(sheet, 0, sheets.count - 1) && in(side, 0, 1) && in(slot, 0, leaves - 1) && in(what, 0, 2));
        int k = 0;
        while (sheets.fromTop.get(k).slot != slot) {
            k++;
        }
        Leaf leaf = sheets.fromTop.get(k);
        if (what == 0) {
            boolean upper = (side == 1) == leaf.over;
            return sheet * leaves * 2 + k * 2 + (upper ? 0 : 1);
        }
        if (what == 1) {
            return leaf.turned ? 1 : 0;
        }
        return leaves == 2 ? 0 : sheets.creep * Math.min(k, leaves - 1 - k) / (leaves / 2 - 1);
    }

    int read(int k, int what) {
        state(sheets != null);
        index(in(k, 0, 2 * sheets.fromTop.size() - 1) && in(what, 0, 1));
        Leaf leaf = sheets.fromTop.get(k / 2);
        return what == 0 ? leaf.slot : leaf.over ^ k % 2 == 1 ? 1 : 0;
    }
}
