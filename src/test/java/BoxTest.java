/** Promises 3 and 4: box and cell. */
final class BoxTest {
    private static final int LOW = Integer.MIN_VALUE;
    private static final int HIGH = Integer.MAX_VALUE;

    public static void main(String[] args) {
        PrePressRoom room = new PrePressRoom();
        Check.due(3072, () -> room.box(0, 0, 0, 48, 64, 1));
        Check.due(0, () -> room.box(0, 0, 0, 48, 64, 1));
        Check.due(6, () -> room.box(0, 10, 20, 2, 3, 63));
        Check.due(4, () -> room.box(0, 11, 21, 2, 3, 63));
        Check.due(1, () -> room.box(0, 47, 63, 1, 1, 0));
        Check.due(3, () -> room.box(1, 45, 0, 3, 1, 9));
        Check.due(2, () -> room.box(1, 0, 62, 1, 2, 9));
        cells(room);
        wrongBoxes(room);
        wrongCells(room);
        Check.due(1, () -> room.cell(0, 0, 0));
        Check.end();
    }

    private static void cells(PrePressRoom room) {
        Check.due(63, () -> room.cell(0, 10, 20));
        Check.due(63, () -> room.cell(0, 11, 22));
        Check.due(63, () -> room.cell(0, 12, 23));
        Check.due(1, () -> room.cell(0, 12, 20));
        Check.due(1, () -> room.cell(0, 10, 23));
        Check.due(1, () -> room.cell(0, 9, 20));
        Check.due(1, () -> room.cell(0, 10, 19));
        Check.due(0, () -> room.cell(0, 47, 63));
        Check.due(9, () -> room.cell(1, 47, 0));
        Check.due(0, () -> room.cell(1, 44, 0));
        Check.due(0, () -> room.cell(1, 0, 1));
        Check.due(9, () -> room.cell(1, 0, 63));
        Check.due(0, () -> room.cell(2, 10, 20));
    }

    private static void wrongBoxes(PrePressRoom room) {
        for (int page : new int[] {-1, 4, LOW, HIGH}) {
            Check.due(Check.INDEX, () -> room.box(page, 0, 0, 1, 1, 1));
            Check.due(Check.INDEX, () -> room.box(page, 0, 0, 0, 1, 1));
        }
        for (int c : new int[] {-1, 64, LOW, HIGH}) {
            Check.due(Check.INDEX, () -> room.box(0, 0, 0, 1, 1, c));
            Check.due(Check.INDEX, () -> room.box(0, -1, 0, 1, 1, c));
        }
        for (int none : new int[] {0, -1, LOW}) {
            Check.due(Check.ARGUMENT, () -> room.box(0, 5, 5, none, 1, 2));
            Check.due(Check.ARGUMENT, () -> room.box(0, 5, 5, 1, none, 2));
        }
        for (int off : new int[] {-1, 48, LOW, HIGH}) {
            Check.due(Check.ARGUMENT, () -> room.box(0, off, 0, 1, 1, 2));
        }
        for (int off : new int[] {-1, 64, LOW, HIGH}) {
            Check.due(Check.ARGUMENT, () -> room.box(0, 0, off, 1, 1, 2));
        }
        Check.due(Check.ARGUMENT, () -> room.box(0, 0, 0, 49, 1, 2));
        Check.due(Check.ARGUMENT, () -> room.box(0, 0, 0, 1, 65, 2));
        Check.due(Check.ARGUMENT, () -> room.box(0, 47, 0, 2, 1, 2));
        Check.due(Check.ARGUMENT, () -> room.box(0, 0, 63, 1, 2, 2));
        Check.due(Check.ARGUMENT, () -> room.box(0, 1, 0, HIGH, 1, 2));
        Check.due(Check.ARGUMENT, () -> room.box(0, 0, 1, 1, HIGH, 2));
        Check.due(Check.ARGUMENT, () -> room.box(0, -1, 0, 2, 1, 2));
    }

    private static void wrongCells(PrePressRoom room) {
        for (int page : new int[] {-1, 4, LOW, HIGH}) {
            Check.due(Check.INDEX, () -> room.cell(page, 0, 0));
        }
        for (int x : new int[] {-1, 48, LOW, HIGH}) {
            Check.due(Check.INDEX, () -> room.cell(0, x, 1));
        }
        for (int y : new int[] {-1, 64, LOW, HIGH}) {
            Check.due(Check.INDEX, () -> room.cell(0, 1, y));
        }
    }
}
