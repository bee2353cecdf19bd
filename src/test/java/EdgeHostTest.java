/** The bounds of promises 36 to 40: n 0, 40, 41 and below 0, numbers beyond a byte or a short, places outside. */
public final class EdgeHostTest {
    private static final int LEAST = Integer.MIN_VALUE, MOST = Integer.MAX_VALUE;
    private static final int[] NO_SHEETS = {-1, 4, LEAST, MOST};
    private static final String STILL = "shines 0 ; fades 0 ; fears 0 ;";

    public static void main(String[] args) {
        sheetNumbers();
        sheetOrder();
        sheetSizes();
        sheetMissing();
        sheetAllZero();
        cellRefuses();
        cellPlaces();
        cellBytes();
        cellShorts();
        cellInts();
        copyRefuses();
        copyOrder();
        copyPlaces();
        copySorts();
        copyOntoItself();
        copyOntoAnother();
        shipsByRefuses();
        shipsByOrder();
        shipsByPlaces();
        shipsByAhead();
        shipsByNone();
        shipsByLeavesOut();
        shipsByFull();
        shipsBySorts();
        takenRefuses();
        takenShips();
        takenCells();
        takenOfTheLost();
        Due.end();
    }

    /** An object of which one SHIP stays wherever it is, so that places() tells a number of a SHEET of one. */
    private static LighthouseLiedTo still() {
        LighthouseLiedTo x = new LighthouseLiedTo();
        Due.due(STILL, x.force(Due.textOf(x, STILL)), 0);
        x.ship(0, 0);
        return x;
    }

    /** Number i of a SHEET, if it is 0 .. 35 (SHEET 3 is used for it). */
    private static long number(LighthouseLiedTo x, int q, int i, int sort) {
        x.sheet(3, sort, 1);
        Due.due("the number is there", x.copy(q, i, 3, 0, 1), 1);
        long cells = x.places(3, 0);
        return cells == 0 ? -1 : Long.numberOfTrailingZeros(cells);
    }

    private static int size(LighthouseLiedTo x, int q) {
        int size = 0;
        while (size < 99 && x.copy(q, size, q, size, 1) == 1) {
            size++;
        }
        return size;
    }

    /** 36: "BAD: SHEET, sort, n above 40; -14." */
    private static void sheetNumbers() {
        LighthouseLiedTo x = still();
        Due.told(x, 0, 1, 2);
        String before = Seen.of(x);
        for (int q : NO_SHEETS) {
            Due.due("36: sheet " + q, x.sheet(q, 0, 1), -2);
        }
        for (int sort : new int[] {-2, 3, LEAST, MOST}) {
            Due.due("36: sort " + sort, x.sheet(0, sort, 1), -2);
        }
        for (int sort = 0; sort < 3; sort++) {
            for (int n : new int[] {41, 42, MOST}) {
                Due.due("36: n " + n, x.sheet(0, sort, n), -2);
            }
            for (int n : new int[] {-1, -2, LEAST}) {
                Due.due("36: n " + n, x.sheet(0, sort, n), -14);
            }
        }
        Due.holds("36: nothing is other", Seen.of(x).equals(before));
    }

    /** 36: BAD ahead of -14 */
    private static void sheetOrder() {
        LighthouseLiedTo x = new LighthouseLiedTo();
        for (int q : NO_SHEETS) {
            Due.due("36: sheet ahead of n below 0", x.sheet(q, 0, -1), -2);
            Due.due("36: sheet ahead of missing", x.sheet(q, -1, 0), -2);
        }
        Due.due("36: sort ahead of n below 0", x.sheet(0, 3, -1), -2);
        Due.due("36: sort ahead of n below 0, too", x.sheet(0, -2, -1), -2);
    }

    /** 36: "a row of n of a sort": n 0 .. 40 */
    private static void sheetSizes() {
        for (int sort = 0; sort < 3; sort++) {
            LighthouseLiedTo x = new LighthouseLiedTo();
            for (int n : new int[] {0, 1, 20, 39, 40, 2, 0}) {
                Due.due("36: n " + n, x.sheet(sort, sort, n), 1);
                Due.due("36: has n", size(x, sort), n);
                Due.due("36: and none behind", x.cell(sort, n, 1), -12);
            }
        }
    }

    /** 36: "missing (sort -1: n does not matter): 1" */
    private static void sheetMissing() {
        LighthouseLiedTo x = new LighthouseLiedTo();
        for (int n : new int[] {0, 1, 40, 41, -1, LEAST, MOST}) {
            x.sheet(2, 1, 40);
            Due.due("36: it is there", x.whose(2), -2);
            Due.due("36: missing, n " + n, x.sheet(2, -1, n), 1);
            Due.due("36: it is missing", x.whose(2), -11);
            Due.due("36: as missing once more", x.sheet(2, -1, n), 1);
            Due.due("36: it has no numbers", x.cell(2, 0, 0), -11);
        }
        Due.due("36: there again", x.sheet(2, 0, 0), 1);
        Due.due("36: it is", x.whose(2), 0);
    }

    /** 36: "all 0", what stood there before, too, up to the fortieth; only this SHEET */
    private static void sheetAllZero() {
        LighthouseLiedTo x = still();
        x.sheet(1, 0, 1);
        x.cell(1, 0, 9);
        for (int sort = 0; sort < 3; sort++) {
            x.sheet(0, sort, 40);
            for (int i = 0; i < 40; i++) {
                x.cell(0, i, 7);
            }
            x.sheet(0, sort, 40);
            for (int i = 0; i < 40; i += 13) {
                Due.due("36: number " + i + " is 0", number(x, 0, i, sort), 0);
            }
        }
        Due.due("36: another sheet is as it was", number(x, 1, 0, 0), 9);
    }

    /** 37: "BAD: SHEET; -11; -12." in this order */
    private static void cellRefuses() {
        LighthouseLiedTo x = new LighthouseLiedTo();
        for (int q : NO_SHEETS) {
            Due.due("37: sheet " + q, x.cell(q, 0, 0), -2);
            Due.due("37: sheet " + q + " ahead of the place", x.cell(q, -1, 0), -2);
        }
        for (int i : new int[] {-1, 0, 40, LEAST, MOST}) {
            Due.due("37: missing", x.cell(0, i, 0), -11);
        }
        x.sheet(0, 0, 0);
        for (int i : new int[] {-1, 0, 1, 40, LEAST, MOST}) {
            Due.due("37: outside of none", x.cell(0, i, 0), -12);
        }
    }

    /** 37: places just inside and just outside; others are as they were */
    private static void cellPlaces() {
        LighthouseLiedTo x = still();
        for (int sort = 0; sort < 3; sort++) {
            x.sheet(0, sort, 40);
            for (int i : new int[] {-1, 40, 41, LEAST, MOST}) {
                Due.due("37: place " + i, x.cell(0, i, 1), -12);
            }
            for (int i = 0; i < 40; i += 39) {
                Due.due("37: place " + i, x.cell(0, i, 5 + i % 7), 1);
                Due.due("37: it is there", number(x, 0, i, sort), 5 + i % 7);
            }
            Due.due("37: 1 is as it was", number(x, 0, 1, sort), 0);
            Due.due("37: 38 is as it was", number(x, 0, 38, sort), 0);
        }
    }

    private static void becomes(int sort, int v, int due) {
        LighthouseLiedTo x = still();
        x.sheet(0, sort, 1);
        Due.due("37: cell", x.cell(0, 0, v), 1);
        Due.due("37: " + v + " of sort " + sort, number(x, 0, 0, sort), due);
    }

    /** 37: "of bytes .. its lowest 8 .. bits" */
    private static void cellBytes() {
        int[][] rows = {{0, 0}, {35, 35}, {127, -1}, {128, -1}, {255, -1}, {256, 0}, {257, 1}, {291, 35}, {-1, -1},
            {-255, 1}, {-256, 0}, {-128, -1}, {65536 + 9, 9}, {LEAST, 0}, {LEAST + 8, 8}, {MOST, -1}, {512 + 128, -1}};
        for (int[] row : rows) {
            becomes(0, row[0], row[1]);
        }
    }

    /** 37: "of .. shorts its lowest .. 16 bits" */
    private static void cellShorts() {
        int[][] rows = {{0, 0}, {35, 35}, {256, -1}, {257, -1}, {32767, -1}, {32768, -1}, {65535, -1}, {65536, 0},
            {65537, 1}, {-1, -1}, {-65535, 1}, {-65536, 0}, {-256, -1}, {LEAST, 0}, {LEAST + 8, 8}, {MOST, -1}};
        for (int[] row : rows) {
            becomes(1, row[0], row[1]);
        }
    }

    /** 37: ints are as they are */
    private static void cellInts() {
        int[][] rows = {{0, 0}, {35, 35}, {36, -1}, {256, -1}, {65536, -1}, {65537, -1}, {-1, -1}, {LEAST, -1},
            {MOST, -1}};
        for (int[] row : rows) {
            becomes(2, row[0], row[1]);
        }
    }

    /** 38: "BAD: SHEETS; -11; -13: unlike sorts; -12 (n below 0, too)." */
    private static void copyRefuses() {
        LighthouseLiedTo x = still();
        x.sheet(0, 0, 3);
        x.sheet(1, 1, 3);
        x.sheet(2, 2, 3);
        String before = Seen.of(x);
        for (int q : NO_SHEETS) {
            Due.due("38: from " + q, x.copy(q, 0, 0, 0, 1), -2);
            Due.due("38: to " + q, x.copy(0, 0, q, 0, 1), -2);
        }
        Due.due("38: from a missing one", x.copy(3, 0, 0, 0, 1), -11);
        Due.due("38: to a missing one", x.copy(0, 0, 3, 0, 1), -11);
        Due.due("38: from it to itself", x.copy(3, 0, 3, 0, 0), -11);
        for (int one = 0; one < 3; one++) {
            for (int other = 0; other < 3; other++) {
                Due.due("38: " + one + " to " + other, x.copy(one, 0, other, 0, 0), one == other ? 0 : -13);
            }
        }
        Due.holds("38: nothing is other", Seen.of(x).equals(before));
    }

    /** 38: of several the first one told */
    private static void copyOrder() {
        LighthouseLiedTo x = new LighthouseLiedTo();
        x.sheet(0, 0, 3);
        x.sheet(1, 1, 3);
        Due.due("38: BAD from ahead of missing", x.copy(4, 0, 2, 0, 1), -2);
        Due.due("38: BAD to ahead of missing", x.copy(2, 0, 4, 0, 1), -2);
        Due.due("38: BAD ahead of outside", x.copy(-1, -1, 0, 9, -1), -2);
        Due.due("38: missing from ahead of outside", x.copy(2, 9, 0, 9, -1), -11);
        Due.due("38: missing to ahead of outside", x.copy(0, 9, 2, 9, -1), -11);
        Due.due("38: sorts ahead of outside", x.copy(0, 9, 1, 0, 1), -13);
        Due.due("38: sorts ahead of n below 0", x.copy(1, 0, 0, 0, -1), -13);
    }

    /** 38: from i on, n numbers, to j: each just inside and just outside, of SHEETS of unlike sizes */
    private static void copyPlaces() {
        LighthouseLiedTo x = new LighthouseLiedTo();
        x.sheet(0, 2, 40);
        x.sheet(1, 2, 7);
        int[][] inside = {{0, 0, 7}, {33, 0, 7}, {39, 6, 1}, {40, 7, 0}, {0, 7, 0}, {40, 0, 0}, {0, 0, 0}, {34, 1, 6}};
        for (int[] at : inside) {
            Due.due("38: inside", x.copy(0, at[0], 1, at[1], at[2]), at[2]);
            Due.due("38: inside, the other way", x.copy(1, at[1], 0, at[0], at[2]), at[2]);
        }
        int[][] outside = {{-1, 0, 1}, {0, -1, 1}, {0, 0, -1}, {0, 0, 8}, {34, 0, 7}, {33, 1, 7}, {40, 0, 1},
            {0, 7, 1}, {41, 0, 0}, {0, 8, 0}, {-1, 0, 0}, {0, -1, 0}, {1, 1, -1}, {LEAST, 0, 1}, {0, LEAST, 1},
            {0, 0, LEAST}, {MOST, 0, 1}, {0, MOST, 1}, {0, 0, MOST}, {MOST, 0, MOST}, {MOST, MOST, LEAST},
            {LEAST, 0, LEAST}, {1, 1, MOST}};
        for (int[] at : outside) {
            Due.due("38: outside", x.copy(0, at[0], 1, at[1], at[2]), -12);
            Due.due("38: outside, the other way", x.copy(1, at[1], 0, at[0], at[2]), -12);
        }
    }

    /** 38: numbers of each sort come as they are */
    private static void copySorts() {
        for (int sort = 0; sort < 3; sort++) {
            LighthouseLiedTo x = still();
            x.sheet(0, sort, 3);
            x.sheet(1, sort, 3);
            for (int i = 0; i < 3; i++) {
                x.cell(0, i, 20 + i);
                x.cell(1, i, 10 + i);
            }
            Due.due("38: two", x.copy(0, 1, 1, 0, 2), 2);
            Due.due("38: the first", number(x, 1, 0, sort), 21);
            Due.due("38: the second", number(x, 1, 1, sort), 22);
            Due.due("38: the third is as it was", number(x, 1, 2, sort), 12);
            Due.due("38: whence it came", number(x, 0, 1, sort), 21);
            Due.due("38: none", x.copy(0, 0, 1, 2, 0), 0);
            Due.due("38: none came", number(x, 1, 2, sort), 12);
        }
    }

    private static void order(LighthouseLiedTo x, int q, int... due) {
        for (int i = 0; i < due.length; i++) {
            Due.due("38: number " + i, number(x, q, i, 2), due[i]);
        }
    }

    /** 38: "(or its own) .. (as they were)": further on, back, onto itself, all */
    private static void copyOntoItself() {
        LighthouseLiedTo x = still();
        Due.told(x, 0, 1, 2, 3, 4, 5);
        Due.due("38: further on", x.copy(0, 0, 0, 1, 4), 4);
        order(x, 0, 1, 1, 2, 3, 4);
        Due.told(x, 0, 1, 2, 3, 4, 5);
        Due.due("38: further on by two", x.copy(0, 0, 0, 2, 3), 3);
        order(x, 0, 1, 2, 1, 2, 3);
        Due.told(x, 0, 1, 2, 3, 4, 5);
        Due.due("38: back", x.copy(0, 1, 0, 0, 4), 4);
        order(x, 0, 2, 3, 4, 5, 5);
        Due.told(x, 0, 1, 2, 3, 4, 5);
        Due.due("38: where they are", x.copy(0, 0, 0, 0, 5), 5);
        order(x, 0, 1, 2, 3, 4, 5);
        Due.due("38: of no overlap", x.copy(0, 3, 0, 0, 2), 2);
        order(x, 0, 4, 5, 3, 4, 5);
        Due.due("38: beyond its end", x.copy(0, 1, 0, 2, 4), -12);
        order(x, 0, 4, 5, 3, 4, 5);
    }

    /** 38: a row of 40 comes whole */
    private static void copyOntoAnother() {
        LighthouseLiedTo x = still();
        x.sheet(0, 1, 40);
        x.sheet(1, 1, 40);
        for (int i = 0; i < 40; i++) {
            x.cell(0, i, i % 36);
        }
        Due.due("38: 40", x.copy(0, 0, 1, 0, 40), 40);
        for (int i = 0; i < 40; i++) {
            Due.due("38: number " + i, number(x, 1, i, 1), i % 36);
        }
        Due.due("38: 41", x.copy(0, 0, 1, 0, 41), -12);
    }

    /** 39: "BAD: SHEET, sort, n; -11; -13; -12" */
    private static void shipsByRefuses() {
        LighthouseLiedTo x = new LighthouseLiedTo();
        x.sheet(0, 2, 12);
        for (int q : NO_SHEETS) {
            Due.due("39: sheet " + q, x.shipsBy(q, 2, 0, 1), -2);
        }
        for (int sort : new int[] {-2, -1, 3, LEAST, MOST}) {
            Due.due("39: sort " + sort, x.shipsBy(0, sort, 0, 1), -2);
        }
        for (int n : new int[] {-1, 7, LEAST, MOST}) {
            Due.due("39: n " + n, x.shipsBy(0, 2, 0, n), -2);
        }
        for (int q = 1; q < 4; q++) {
            Due.due("39: missing", x.shipsBy(q, 2, 0, 1), -11);
        }
        for (int has = 0; has < 3; has++) {
            x.sheet(1, has, 12);
            for (int sort = 0; sort < 3; sort++) {
                Due.due("39: " + has + " told as " + sort, x.shipsBy(1, sort, 12, 1), sort == has ? -12 : -13);
            }
        }
        Due.due("39: none came", x.count(0), 0);
    }

    /** 39: of several the first one told */
    private static void shipsByOrder() {
        LighthouseLiedTo x = new LighthouseLiedTo();
        x.sheet(0, 2, 12);
        Due.due("39: BAD sort ahead of missing", x.shipsBy(1, 3, 0, 1), -2);
        Due.due("39: BAD n ahead of missing", x.shipsBy(1, 2, 0, 7), -2);
        Due.due("39: BAD n ahead of the sort", x.shipsBy(0, 1, 0, 7), -2);
        Due.due("39: BAD n ahead of outside", x.shipsBy(0, 2, -1, 7), -2);
        Due.due("39: missing ahead of outside", x.shipsBy(1, 2, -1, 1), -11);
        Due.due("39: the sort ahead of outside", x.shipsBy(0, 1, -1, 1), -13);
    }

    /** 39: "from a place on": the first and the last from which two numbers are there */
    private static void shipsByPlaces() {
        for (int size : new int[] {0, 1, 2, 3, 40}) {
            for (int from : new int[] {LEAST, -2, -1, 0, 1, 38, 39, 40, 41, MOST - 1, MOST}) {
                LighthouseLiedTo x = new LighthouseLiedTo();
                x.sheet(0, 2, size);
                boolean inside = from >= 0 && from <= size - 2;
                Due.due("39: size " + size + ", from " + from, x.shipsBy(0, 2, from, 1), inside ? 1 : -12);
                Due.due("39: so many", x.count(0), inside ? 1 : 0);
            }
        }
    }

    /** 39: "-12: what stood ahead came" */
    private static void shipsByAhead() {
        for (int n = 1; n <= 6; n++) {
            for (int half = 0; half < 2; half++) {
                LighthouseLiedTo x = new LighthouseLiedTo();
                x.sheet(0, 2, 2 * n - 2 + half);
                Due.due("39: the last is not there", x.shipsBy(0, 2, 0, n), -12);
                Due.due("39: those ahead came", x.count(0), n - 1);
                x.sheet(0, 2, 2 * n + half);
                Due.due("39: all are there", x.shipsBy(0, 2, half, n), Math.min(n, 7 - n));
            }
        }
        // A place outside behind what is left out, and behind what has no room, is told as well.
        LighthouseLiedTo x = new LighthouseLiedTo();
        Due.told(x, 0, 60, 0, 0, 0, 1);
        Due.due("39: outside behind one left out", x.shipsBy(0, 2, 0, 3), -12);
        Due.due("39: one came", x.count(0), 1);
        Due.due("39: one came, one is left out", x.shipsBy(0, 2, 0, 2), 1);
    }

    /** 39: n 0: none come */
    private static void shipsByNone() {
        LighthouseLiedTo x = new LighthouseLiedTo();
        x.sheet(0, 2, 4);
        Due.due("39: n 0", x.shipsBy(0, 2, 0, 0), 0);
        Due.due("39: n 0, behind the last", x.shipsBy(0, 2, 4, 0), 0);
        Due.due("39: n 0 of a missing one", x.shipsBy(1, 2, 0, 0), -11);
        Due.due("39: n 0 of another sort", x.shipsBy(0, 1, 0, 0), -13);
        Due.due("39: none came", x.count(0), 0);
        Due.due("39: n 2, all that there are", x.shipsBy(0, 2, 0, 2), 2);
        Due.due("39: two came", x.count(0), 2);
    }

    /** 39: "(as of ship())", "how many came (others are left out)" */
    private static void shipsByLeavesOut() {
        LighthouseLiedTo x = new LighthouseLiedTo();
        Due.told(x, 0, -1, 0, 60, 0, 59, 3599, 0, -1, 0, 3600, 12, 345);
        Due.due("39: two of six", x.shipsBy(0, 2, 0, 6), 2);
        Due.due("39: two", x.count(0), 2);
        int[][] told = {{35, 99, 5, 9, 0}, {3, 45, 1, 2, 0}};
        for (int s = 0; s < 2; s++) {
            for (int what = 0; what < 5; what++) {
                Due.due("39: ship " + s + ", what " + what, x.told(s, what), told[s][what]);
            }
        }
        Due.due("39: from an odd place", x.shipsBy(0, 2, 3, 1), 1);
        Due.due("39: KIND 0, MORE 0", x.told(2, 2) + x.told(2, 3), 0);
        Due.due("39: CELL 0", x.told(2, 0), 0);
        Due.due("39: DRAUGHT 59", x.told(2, 1), 59);
    }

    /** 39: SHIPS that are FULL are left out as well */
    private static void shipsByFull() {
        LighthouseLiedTo x = new LighthouseLiedTo();
        x.sheet(0, 0, 12);
        for (int s = 0; s < 4; s++) {
            x.ship(50, 0);
        }
        Due.due("39: two have room", x.shipsBy(0, 0, 0, 6), 2);
        Due.due("39: six", x.count(0), 6);
        Due.due("39: none has room", x.shipsBy(0, 0, 0, 6), 0);
        Due.due("39: nor one", x.shipsBy(0, 0, 10, 1), 0);
        Due.due("39: outside all the same", x.shipsBy(0, 0, 11, 1), -12);
        x = new LighthouseLiedTo();
        x.sheet(0, 0, 12);
        Due.due("39: six of six", x.shipsBy(0, 0, 0, 6), 6);
    }

    /** 39: of bytes and shorts as they are: what one can't hold is another number */
    private static void shipsBySorts() {
        LighthouseLiedTo x = new LighthouseLiedTo();
        x.sheet(0, 0, 6);
        x.cell(0, 0, 59 + 256);
        x.cell(0, 1, 99);
        x.cell(0, 2, 10);
        x.cell(0, 3, 127);
        x.cell(0, 4, 10);
        x.cell(0, 5, 128);
        Due.due("39: bytes", x.shipsBy(0, 0, 0, 3), 2);
        Due.due("39: CELL 0", x.told(0, 0), 0);
        Due.due("39: KIND 5", x.told(0, 2), 5);
        Due.due("39: CELL 1", x.told(1, 0), 1);
        Due.due("39: DRAUGHT 27", x.told(1, 1), 27);
        x.sheet(1, 1, 4);
        x.cell(1, 0, 65536 + 21);
        x.cell(1, 1, 65536 + 3599);
        x.cell(1, 2, 0);
        x.cell(1, 3, 3600);
        Due.due("39: shorts", x.shipsBy(1, 1, 0, 2), 1);
        Due.due("39: CELL 35", x.told(2, 0), 35);
        Due.due("39: DRAUGHT 99", x.told(2, 1), 99);
        x.sheet(2, 2, 2);
        x.cell(2, 1, 65536);
        Due.due("39: ints", x.shipsBy(2, 2, 0, 1), 0);
        Due.due("39: three in all", x.count(0), 3);
    }

    /** 40: "BAD: kind; -12: i; -11: no such SHIP; -13." in this order */
    private static void takenRefuses() {
        LighthouseLiedTo x = new LighthouseLiedTo();
        x.ship(0, 0);
        for (int kind : new int[] {-1, 7, LEAST, MOST}) {
            Due.due("40: kind " + kind, x.taken(0, kind), -2);
            Due.due("40: kind " + kind + " ahead of i", x.taken(42, kind), -2);
            Due.due("40: kind " + kind + " ahead of no ship", x.taken(1, kind), -2);
            Due.due("40: kind " + kind + " of a cell", x.taken(6, kind), -2);
        }
        for (int i : new int[] {-1, 42, LEAST, MOST}) {
            for (int kind = 0; kind <= 6; kind++) {
                Due.due("40: i " + i, x.taken(i, kind), -12);
            }
        }
        for (int i = 1; i < 6; i++) {
            for (int kind = 0; kind <= 6; kind++) {
                Due.due("40: no ship " + i + " taken for " + kind, x.taken(i, kind), -11);
            }
        }
        Due.due("40: a ship is no cell", x.taken(0, 6), -13);
        Due.due("40: a cell is no ship", x.taken(6, 0), -13);
    }

    /** 40: "0 .. 5 SHIPS .. taken for 0 .. 5 a SHIP of that KIND (also of one that is one): the number" */
    private static void takenShips() {
        boolean[][] is = new boolean[6][6];
        int[][] pairs = {{0, 0}, {1, 1}, {1, 0}, {2, 2}, {2, 0}, {3, 3}, {3, 1}, {3, 0}, {4, 4}, {4, 2}, {4, 0},
            {5, 5}, {5, 0}};
        for (int[] pair : pairs) {
            is[pair[0]][pair[1]] = true;
        }
        LighthouseLiedTo x = new LighthouseLiedTo();
        for (int s = 0; s < 6; s++) {
            x.ship(10 * (5 - s), 0);
        }
        for (int s = 0; s < 6; s++) {
            for (int kind = 0; kind < 6; kind++) {
                Due.due("40: " + (5 - s) + " taken for " + kind, x.taken(s, kind), is[5 - s][kind] ? s : -13);
            }
            Due.due("40: a ship is no cell", x.taken(s, 6), -13);
        }
    }

    /** 40: "6 .. 41 CELLS", "6 a CELL: BELIEF of it" */
    private static void takenCells() {
        LighthouseLiedTo x = new LighthouseLiedTo();
        for (int c = 0; c < 36; c++) {
            x.tell(c, 2 * c + 1);
        }
        for (int c = 0; c < 36; c++) {
            Due.due("40: belief of " + c, x.taken(6 + c, 6), 2 * c + 1);
            for (int kind = 0; kind < 6; kind++) {
                Due.due("40: " + c + " taken for " + kind, x.taken(6 + c, kind), -13);
            }
        }
        x.tell(35, -99);
        Due.due("40: 0 is no refusal", x.taken(41, 6), 0);
    }

    /** 40: "SHIPS (LOST ones, too)" */
    private static void takenOfTheLost() {
        LighthouseLiedTo x = new LighthouseLiedTo();
        x.ship(30, 0);
        x.ship(0, 700);
        x.rock(0, 1);
        x.rock(8, 1);
        Due.due("40: both are lost", x.night(), 3);
        Due.due("40: the wrecker", x.taken(0, 1), 0);
        Due.due("40: is no barge", x.taken(0, 2), -13);
        Due.due("40: the ship", x.taken(1, 0), 1);
        Due.due("40: is no post", x.taken(1, 1), -13);
        Due.due("40: no third", x.taken(2, 0), -11);
    }
}
