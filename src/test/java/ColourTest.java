/** Promise 2: colour. */
final class ColourTest {
    public static void main(String[] args) {
        PrePressRoom room = new PrePressRoom();
        Check.due(0, () -> room.colour(63, 0, 255));
        Check.due(255, () -> room.colour(63, 0, 12));
        Check.due(12, () -> room.colour(63, 0, 0));
        Check.due(0, () -> room.colour(63, 0, 0));
        Check.due(0, () -> room.colour(62, 3, 9));
        Check.due(0, () -> room.colour(63, 3, 9));
        wrongInputs(room);
        spots(room);
        Check.end();
    }

    private static void wrongInputs(PrePressRoom room) {
        int[] noColours = {-1, 64, Integer.MIN_VALUE, Integer.MAX_VALUE};
        int[] noInks = {-1, 8, Integer.MIN_VALUE, Integer.MAX_VALUE};
        int[] noAmounts = {-1, 256, Integer.MIN_VALUE, Integer.MAX_VALUE};
        for (int i = 0; i < 4; i++) {
            int k = i;
            Check.due(Check.INDEX, () -> room.colour(noColours[k], 0, 1));
            Check.due(Check.INDEX, () -> room.colour(0, noInks[k], 1));
            Check.due(Check.INDEX, () -> room.colour(noColours[k], 0, noAmounts[k]));
            Check.due(Check.INDEX, () -> room.colour(0, noInks[k], noAmounts[k]));
            Check.due(Check.ARGUMENT, () -> room.colour(0, 0, noAmounts[k]));
        }
        Check.due(0, () -> room.colour(0, 0, 0));
    }

    private static void spots(PrePressRoom room) {
        Check.due(0, () -> room.colour(1, 4, 1));
        for (int ink = 5; ink < 8; ink++) {
            int i = ink;
            Check.due(Check.STATE, () -> room.colour(1, i, 1));
            Check.due(Check.ARGUMENT, () -> room.colour(1, i, 256));
            Check.due(0, () -> room.colour(1, i, 0));
        }
        Check.due(1, () -> room.colour(1, 4, 200));
        Check.due(0, () -> room.colour(1, 3, 200));
        Check.due(0, () -> room.colour(2, 7, 200));
        Check.due(Check.STATE, () -> room.colour(2, 4, 1));
        Check.due(200, () -> room.colour(1, 4, 0));
        Check.due(0, () -> room.colour(1, 5, 3));
        Check.due(Check.STATE, () -> room.colour(1, 4, 1));
    }
}
