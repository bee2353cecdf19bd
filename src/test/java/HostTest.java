/** Promises 36 to 40: the host. */
public final class HostTest {
    public static void main(String[] args) {
        sheets();
        cells();
        copies();
        shipsBy();
        taken();
        Due.end();
    }

    /** 36 */
    private static void sheets() {
        LighthouseLiedTo x = new LighthouseLiedTo();
        Due.due("sheet -1", x.sheet(-1, 0, -1), -2);
        Due.due("sheet 4", x.sheet(4, 0, 0), -2);
        Due.due("sort -2", x.sheet(0, -2, 0), -2);
        Due.due("sort 3", x.sheet(0, 3, -1), -2);
        Due.due("n 41", x.sheet(0, 0, 41), -2);
        Due.due("n -1", x.sheet(0, 0, -1), -14);
        Due.due("none came", x.cell(0, 0, 0), -11);
        for (int sort = 0; sort < 3; sort++) {
            Due.due("a row of 40", x.sheet(sort, sort, 40), 1);
            Due.due("its last", x.cell(sort, 39, 1), 1);
            Due.due("none behind it", x.cell(sort, 40, 1), -12);
        }
        Due.due("a row of 0", x.sheet(3, 2, 0), 1);
        Due.due("has none", x.cell(3, 0, 0), -12);
        Due.due("missing, n is nothing", x.sheet(3, -1, 41), 1);
        Due.due("is missing", x.cell(3, 0, 0), -11);
        x.ship(50, 0);
        x.sheet(0, 2, 3);
        x.cell(0, 0, 7);
        x.sheet(0, 2, 3);
        Due.due("all 0", x.judge(0, 0), -1);
    }

    /** 37 */
    private static void cells() {
        LighthouseLiedTo x = new LighthouseLiedTo();
        Due.due("sheet 4", x.cell(4, 0, 0), -2);
        Due.due("sheet -1", x.cell(-1, 0, 0), -2);
        Due.due("missing", x.cell(0, -1, 0), -11);
        x.sheet(0, 0, 2);
        Due.due("place -1", x.cell(0, -1, 0), -12);
        Due.due("place 2", x.cell(0, 2, 0), -12);
        Due.due("far place", x.cell(0, Integer.MAX_VALUE, 0), -12);
        Due.due("farther place", x.cell(0, Integer.MIN_VALUE, 0), -12);
        x.ship(50, 1100);
        x.cell(0, 0, 256 + 11);
        x.cell(0, 1, -256 + 11);
        Due.due("lowest 8 bits", x.judge(0, 0), -1);
        x.sheet(1, 1, 2);
        x.cell(1, 0, 65536 + 11);
        x.cell(1, 1, 256 + 11);
        Due.due("lowest 16 bits", x.judge(1, 0), 1);
        x.sheet(2, 2, 1);
        x.cell(2, 0, 65536 + 11);
        Due.due("all bits", x.judge(2, 0), 0);
        x.sheet(3, 0, 2);
        x.cell(3, 0, 1);
        x.cell(3, 1, 200);
        Due.due("bytes are below 128", x.shipsBy(3, 0, 0, 1), 0);
    }

    /** 38 */
    private static void copies() {
        LighthouseLiedTo x = new LighthouseLiedTo();
        x.ship(50, 0);
        x.sheet(0, 2, 5);
        Due.due("sheet -1", x.copy(-1, 0, 1, 0, 0), -2);
        Due.due("sheet 4", x.copy(1, 0, 4, 0, 0), -2);
        Due.due("from a missing one", x.copy(1, 0, 0, 0, -1), -11);
        Due.due("to a missing one", x.copy(0, 0, 1, 0, -1), -11);
        x.sheet(1, 1, 5);
        Due.due("of unlike sorts", x.copy(0, 0, 1, 0, -1), -13);
        x.sheet(1, 2, 3);
        int[][] outside = {{0, 0, -1}, {-1, 0, 1}, {0, -1, 1}, {5, 0, 1}, {0, 3, 1}, {3, 0, 3}, {0, 1, 3}, {6, 0, 0},
            {0, 4, 0}, {-1, 0, 0}, {0, 0, 4}, {Integer.MAX_VALUE, 0, 1}, {0, Integer.MAX_VALUE, 1},
            {0, 0, Integer.MAX_VALUE}, {Integer.MIN_VALUE, 0, 1}, {0, 0, Integer.MIN_VALUE}};
        for (int[] o : outside) {
            Due.due("outside", x.copy(0, o[0], 1, o[1], o[2]), -12);
        }
        Due.due("none, at the end", x.copy(0, 5, 1, 3, 0), 0);
        Due.told(x, 0, 7, 0, 0, 7, 7);
        Due.told(x, 1, 7, 7, 7);
        Due.due("two", x.copy(0, 1, 1, 0, 2), 2);
        Due.due("the third is as it was", x.judge(1, 0), 2);
        Due.due("the last", x.copy(0, 2, 1, 2, 1), 1);
        Due.due("all came", x.judge(1, 0), -1);
        overlaps();
    }

    private static void overlaps() {
        LighthouseLiedTo x = new LighthouseLiedTo();
        x.ship(0, 0);
        Due.told(x, 0, 1, 2, 3, 4);
        Due.due("its own, further", x.copy(0, 0, 0, 1, 3), 3);
        x.put(0, 0, 0);
        Due.told(x, 1, 1, 1, 2, 3);
        Due.due("as they were", same(x, 0, 1, 4), 1);
        Due.told(x, 0, 1, 2, 3, 4);
        Due.due("its own, back", x.copy(0, 1, 0, 0, 3), 3);
        Due.told(x, 1, 2, 3, 4, 4);
        Due.due("as they were, too", same(x, 0, 1, 4), 1);
    }

    /** Whether n numbers (cells) are alike, told by where a ghost that stays could be. */
    private static int same(LighthouseLiedTo x, int one, int other, int n) {
        x.ship(50, 0);
        int s = x.count(0) - 1;
        int alike = 1;
        for (int i = 0; i < n; i++) {
            x.sheet(2, 2, 1);
            x.sheet(3, 2, 1);
            x.copy(one, i, 2, 0, 1);
            x.copy(other, i, 3, 0, 1);
            alike = x.places(2, s) == x.places(3, s) ? alike : 0;
        }
        return alike;
    }

    /** 39 */
    private static void shipsBy() {
        LighthouseLiedTo x = new LighthouseLiedTo();
        Due.due("sheet 4", x.shipsBy(4, 0, 0, 0), -2);
        Due.due("sheet -1", x.shipsBy(-1, 0, 0, 0), -2);
        Due.due("sort -1", x.shipsBy(0, -1, 0, 0), -2);
        Due.due("sort 3", x.shipsBy(0, 3, 0, 0), -2);
        Due.due("n -1", x.shipsBy(0, 0, 0, -1), -2);
        Due.due("n 7", x.shipsBy(0, 0, 0, 7), -2);
        Due.due("missing", x.shipsBy(0, 0, -1, 1), -11);
        Due.told(x, 0, 9, 31, 1234, 60, 0, 59, 3599, 7);
        Due.due("of another sort", x.shipsBy(0, 1, -1, 1), -13);
        Due.due("three, one is left out", x.shipsBy(0, 2, 1, 3), 2);
        Due.due("the first", x.told(0, 0), 12);
        Due.due("its draught", x.told(0, 1), 34);
        Due.due("its kind", x.told(0, 2), 3);
        Due.due("its more", x.told(0, 3), 1);
        Due.due("the second", x.told(1, 0), 35);
        Due.due("half of a pair", x.shipsBy(0, 2, 5, 2), -12);
        Due.due("what stood ahead came", x.count(0), 3);
        Due.due("place -1", x.shipsBy(0, 2, -1, 1), -12);
        Due.due("far place", x.shipsBy(0, 2, Integer.MAX_VALUE, 1), -12);
        Due.due("none came", x.count(0), 3);
        Due.due("none of them", x.shipsBy(0, 2, 0, 0), 0);
        x.sheet(1, 0, 12);
        Due.due("three more, the rest is left out", x.shipsBy(1, 0, 0, 6), 3);
        Due.due("six", x.count(0), 6);
        Due.due("none has room", x.shipsBy(1, 0, 0, 6), 0);
        Due.due("outside is seen by those, too", x.shipsBy(1, 0, 2, 6), -12);
    }

    /** 40 */
    private static void taken() {
        int[][] above = {{0}, {1, 0}, {2, 0}, {3, 1, 0}, {4, 2, 0}, {5, 0}};
        LighthouseLiedTo x = new LighthouseLiedTo();
        for (int k = 0; k < 6; k++) {
            Due.due("not there yet", x.taken(k, 6), -11);
            x.ship(10 * k, 3500);
            for (int as = 0; as < 7; as++) {
                boolean is = false;
                for (int a : above[k]) {
                    is |= a == as;
                }
                Due.due(k + " taken for " + as, x.taken(k, as), is ? k : -13);
            }
        }
        x.tell(0, 5);
        x.tell(35, 6);
        Due.due("cell 0", x.taken(6, 6), 5);
        Due.due("cell 35", x.taken(41, 6), 6);
        for (int k = 0; k < 6; k++) {
            Due.due("a cell is no ship", x.taken(41, k), -13);
        }
        Due.due("kind 7", x.taken(42, 7), -2);
        Due.due("kind -1", x.taken(0, -1), -2);
        Due.due("place 42", x.taken(42, 6), -12);
        Due.due("place -1", x.taken(-1, 0), -12);
        x.rock(35, 1);
        x.tell(35, -6);
        Due.due("some are lost", x.night() & 1, 1);
        Due.due("lost ones, too", x.taken(0, 0), 0);
    }
}
