/** Promise 1: a new object. */
final class NewRoomTest {
    public static void main(String[] args) {
        PrePressRoom room = new PrePressRoom();
        for (int page = 0; page < 4; page++) {
            int p = page;
            Check.due(0, () -> room.cell(p, 0, 0));
            Check.due(0, () -> room.cell(p, 47, 63));
            Check.due(0, () -> room.box(p, 0, 0, 48, 64, 0));
            Check.due(Check.STATE, () -> room.plate(p, 0, 0, 0));
            Check.due(Check.STATE, () -> room.trapped(p, 0, 0));
            Check.due(Check.STATE, () -> room.trap(p, 1));
            Check.due(Check.STATE, () -> room.dot(p, 0, 0, 0));
            Check.due(Check.STATE, () -> room.share(p, 0, 20, 20));
            Check.due(Check.STATE, () -> room.proof(p, 0, 0));
        }
        Check.due(Check.STATE, () -> room.slot(0, 0, 0, 0));
        Check.due(Check.STATE, () -> room.read(0, 0));
        colours(new PrePressRoom());
        greyAtFirst(new PrePressRoom());
        screensAtFirst(new PrePressRoom());
        twoRoomsAreApart();
        Check.end();
    }

    /** All 512 amounts: just the calls that an object is made for. */
    private static void colours(PrePressRoom room) {
        for (int c = 0; c < 64; c++) {
            for (int ink = 0; ink < 8; ink++) {
                int colour = c;
                int i = ink;
                Check.due(0, () -> room.colour(colour, i, 0));
            }
        }
    }

    /** Share 0 moves nothing to black, limit 1020 leaves all four inks full. */
    private static void greyAtFirst(PrePressRoom room) {
        for (int ink = 0; ink < 4; ink++) {
            room.colour(0, ink, 255);
        }
        room.separate(0);
        for (int ink = 0; ink < 4; ink++) {
            int i = ink;
            Check.due(255, () -> room.plate(0, i, 5, 5));
        }
        room.colour(0, 3, 0);
        room.separate(0);
        Check.due(255, () -> room.plate(0, 0, 5, 5));
        Check.due(0, () -> room.plate(0, 3, 5, 5));
    }

    /** With a 4 and b 0 places four apart are of one class; 1, 0 is nearer than 2, 0. */
    private static void screensAtFirst(PrePressRoom room) {
        for (int ink = 0; ink < 8; ink++) {
            int i = ink;
            Check.due(0, () -> room.rank(i, 0, 0));
            Check.due(1, () -> room.rank(i, 0, -1));
            Check.due(2, () -> room.rank(i, -1, 0));
            Check.due(3, () -> room.rank(i, 1, 0));
            Check.due(4, () -> room.rank(i, 0, 1));
            Check.due(15, () -> room.rank(i, 2, 2));
            Check.due(0, () -> room.rank(i, 4, -8));
        }
    }

    private static void twoRoomsAreApart() {
        PrePressRoom one = new PrePressRoom();
        PrePressRoom two = new PrePressRoom();
        one.box(0, 0, 0, 2, 2, 7);
        one.screen(0, 1, 0, 0);
        one.impose(4, 1, 0);
        Check.due(0, () -> two.cell(0, 0, 0));
        Check.due(3, () -> two.rank(0, 1, 0));
        Check.due(Check.STATE, () -> two.read(0, 0));
    }
}
