/** Promises 5, 6 and 7: grey, separate and plate. */
final class SeparateTest {
    public static void main(String[] args) {
        greyRanges();
        separating();
        countsColours();
        jobsStayAsTheyAre();
        wrongInputs();
        Check.end();
    }

    private static void greyRanges() {
        PrePressRoom room = new PrePressRoom();
        Check.dueOf(Check.DONE, () -> room.grey(0, 200));
        Check.dueOf(Check.DONE, () -> room.grey(100, 1020));
        for (int share : new int[] {-1, 101, Integer.MIN_VALUE, Integer.MAX_VALUE}) {
            Check.dueOf(Check.ARGUMENT, () -> room.grey(share, 300));
        }
        for (int limit : new int[] {199, 1021, -1, Integer.MIN_VALUE, Integer.MAX_VALUE}) {
            Check.dueOf(Check.ARGUMENT, () -> room.grey(10, limit));
        }
        // None of the refused ones took hold: share 100 and limit 1020 are in force.
        parts(room, new int[] {10, 20, 30, 40}, new int[] {0, 10, 20, 50});
    }

    private static void parts(PrePressRoom room, int[] inks, int[] due) {
        for (int ink = 0; ink < 4; ink++) {
            room.colour(0, ink, inks[ink]);
        }
        room.separate(3);
        for (int ink = 0; ink < 4; ink++) {
            int i = ink;
            Check.due(due[i], () -> room.plate(3, i, 7, 7));
        }
    }

    private static void separating() {
        PrePressRoom room = new PrePressRoom();
        room.colour(0, 6, 250);
        room.grey(50, 1020);
        parts(room, new int[] {11, 13, 15, 3}, new int[] {6, 8, 10, 8});
        parts(room, new int[] {0, 13, 15, 3}, new int[] {0, 13, 15, 3});
        parts(room, new int[] {15, 13, 11, 3}, new int[] {10, 8, 6, 8});
        parts(room, new int[] {13, 11, 15, 3}, new int[] {8, 6, 10, 8});
        room.grey(100, 1020);
        parts(room, new int[] {200, 100, 255, 200}, new int[] {145, 45, 200, 255});
        parts(room, new int[] {200, 100, 255, 255}, new int[] {200, 100, 255, 255});
        room.grey(0, 300);
        parts(room, new int[] {100, 100, 99, 1}, new int[] {100, 100, 99, 1});
        parts(room, new int[] {100, 100, 100, 1}, new int[] {99, 99, 99, 1});
        parts(room, new int[] {255, 1, 0, 100}, new int[] {199, 0, 0, 100});
        room.grey(0, 200);
        parts(room, new int[] {10, 20, 30, 255}, new int[] {0, 0, 0, 255});
        parts(room, new int[] {0, 0, 0, 255}, new int[] {0, 0, 0, 255});
        parts(room, new int[] {0, 9, 0, 255}, new int[] {0, 0, 0, 255});
        parts(room, new int[] {9, 0, 0, 200}, new int[] {0, 0, 0, 200});
        parts(room, new int[] {0, 0, 9, 199}, new int[] {0, 0, 1, 199});
        parts(room, new int[] {10, 20, 30, 199}, new int[] {0, 0, 0, 199});
        parts(room, new int[] {90, 20, 30, 190}, new int[] {6, 1, 2, 190});
        room.grey(33, 400);
        parts(room, new int[] {255, 255, 255, 0}, new int[] {105, 105, 105, 84});
        Check.due(250, () -> room.plate(3, 6, 0, 0));
        Check.due(0, () -> room.plate(3, 5, 0, 0));
    }

    private static void countsColours() {
        PrePressRoom room = new PrePressRoom();
        Check.due(1, () -> room.separate(0));
        for (int c = 0; c < 64; c++) {
            room.box(0, c % 48, c / 48, 1, 1, c);
        }
        Check.due(64, () -> room.separate(0));
        room.box(0, 0, 0, 48, 64, 63);
        Check.due(1, () -> room.separate(0));
        room.box(0, 47, 63, 1, 1, 31);
        Check.due(2, () -> room.separate(0));
        room.box(0, 0, 0, 1, 1, 0);
        Check.due(3, () -> room.separate(0));
        Check.due(1, () -> room.separate(3));
    }

    private static void jobsStayAsTheyAre() {
        PrePressRoom room = new PrePressRoom();
        room.colour(1, 0, 100);
        room.colour(1, 1, 100);
        room.colour(1, 2, 100);
        room.box(0, 0, 0, 48, 64, 1);
        room.separate(0);
        room.grey(100, 200);
        room.colour(1, 0, 7);
        room.box(0, 0, 0, 48, 64, 2);
        Check.due(100, () -> room.plate(0, 0, 9, 9));
        Check.due(0, () -> room.plate(0, 3, 9, 9));
        Check.due(Check.STATE, () -> room.plate(1, 0, 9, 9));
        room.box(0, 8, 8, 2, 2, 1);
        Check.due(2, () -> room.separate(0));
        Check.due(0, () -> room.plate(0, 0, 9, 9));
        Check.due(93, () -> room.plate(0, 1, 9, 9));
        Check.due(7, () -> room.plate(0, 3, 9, 9));
        Check.due(0, () -> room.plate(0, 1, 10, 9));
        Check.due(0, () -> room.plate(0, 1, 9, 10));
    }

    private static void wrongInputs() {
        PrePressRoom room = new PrePressRoom();
        room.separate(0);
        for (int page : new int[] {-1, 4, Integer.MIN_VALUE, Integer.MAX_VALUE}) {
            Check.due(Check.INDEX, () -> room.separate(page));
            Check.due(Check.INDEX, () -> room.plate(page, 0, 0, 0));
        }
        for (int page = 0; page < 2; page++) {
            int p = page;
            Check.due(Check.INDEX, () -> room.plate(p, -1, 0, 0));
            Check.due(Check.INDEX, () -> room.plate(p, 8, 0, 0));
            Check.due(Check.INDEX, () -> room.plate(p, 0, -1, 0));
            Check.due(Check.INDEX, () -> room.plate(p, 0, 48, 0));
            Check.due(Check.INDEX, () -> room.plate(p, 0, 0, -1));
            Check.due(Check.INDEX, () -> room.plate(p, 0, 0, 64));
        }
        Check.due(Check.STATE, () -> room.plate(1, 7, 47, 63));
        Check.due(0, () -> room.plate(0, 7, 47, 63));
    }
}
