/** New rooms for tests. */
final class Rooms {
    private Rooms() { }

    /** Each row is a colour, an ink and an amount. */
    static PrePressRoom with(int[]... amounts) {
        PrePressRoom room = new PrePressRoom();
        for (int[] amount : amounts) {
            room.colour(amount[0], amount[1], amount[2]);
        }
        return room;
    }

    static int[] row(int c, int ink, int v) {
        return new int[] {c, ink, v};
    }

    /** All of page 0 has one colour, but the cell at 20, 20 has another; the job is made. */
    static PrePressRoom ofMarkOnGround(int mark, int ground, int[]... amounts) {
        PrePressRoom room = with(amounts);
        room.box(0, 0, 0, 48, 64, ground);
        room.box(0, 20, 20, 1, 1, mark);
        room.separate(0);
        return room;
    }
}
