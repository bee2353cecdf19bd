/** The bounds that "Terms" names for the sea, ships, nights: a method for each sentence, which stands above it. */
public final class EdgeTermsTest {
    private static final String STILL = "shines 0 ; fades 0 ; fears 0 ;";

    public static void main(String[] args) {
        columnsAndRows();
        besideAtTheBorders();
        besideOneCellOnly();
        goesOnlyIfLikedMore();
        beliefIsBound();
        toldIsCut();
        toldByDoubt();
        doubtIsBound();
        draughtAgainstMore();
        moreModuloSix();
        ghostsCell();
        raftsTenth();
        raftsNight();
        postsHalf();
        likesOfBounds();
        likesByDraught();
        lossAtFifty();
        teachesIfMore();
        fadesToNone();
        fadesWithoutAShip();
        shipByShip();
        sixthShip();
        Due.end();
    }

    private static LighthouseLiedTo with(String text) {
        LighthouseLiedTo x = new LighthouseLiedTo();
        Due.due(text, x.force(Due.textOf(x, text)), 0);
        return x;
    }

    /** "CELL modulo 6 is the COLUMN, CELL by 6 (cut) the ROW" */
    private static void columnsAndRows() {
        LighthouseLiedTo x = with("shines column ; fades row ; fears 10 * row + column ;");
        int c = 0;
        for (int row = 0; row < 6; row++) {
            for (int column = 0; column < 6; column++) {
                Due.due("column of " + c, x.asks(0, c, -1), column);
                Due.due("row of " + c, x.asks(1, c, -1), row);
                Due.due("both of " + c, x.asks(2, c, -1), 10 * row + column);
                c++;
            }
        }
    }

    /** "BESIDE a CELL, in this order: a COLUMN further, a COLUMN back, a ROW further, a ROW back (those there are)" */
    private static void besideAtTheBorders() {
        for (int row = 0; row < 6; row++) {
            for (int column = 0; column < 6; column++) {
                LighthouseLiedTo x = with("shines 99 - belief ; fades 0 ; fears 0 ;");
                int own = 6 * row + column;
                x.ship(0, 100 * own);
                x.tell(own, 9);
                int[][] ways = {{column + 1, row}, {column - 1, row}, {column, row + 1}, {column, row - 1}};
                for (int[] way : ways) {
                    if (way[0] >= 0 && way[0] < 6 && way[1] >= 0 && way[1] < 6) {
                        int c = 6 * way[1] + way[0];
                        Due.due("the first left beside " + own, x.told(0, 5), c);
                        x.tell(c, 9);
                    }
                }
                Due.due("none left beside " + own, x.told(0, 5), own);
            }
        }
    }

    /** As above, of each cell and each that alone is liked: it goes there just if that lies beside. */
    private static void besideOneCellOnly() {
        for (int own = 0; own < 36; own++) {
            LighthouseLiedTo x = with("shines belief ; fades 0 ; fears 0 ;");
            x.ship(0, 100 * own);
            for (int c = 0; c < 36; c++) {
                int columns = Math.abs(c % 6 - own % 6);
                int rows = Math.abs(c / 6 - own / 6);
                x.tell(c, 9);
                Due.due("from " + own + " to " + c, x.told(0, 5), columns + rows == 1 ? c : own);
                x.tell(c, -9);
            }
        }
    }

    /** "it goes to the CELL BESIDE that it LIKES most, if it LIKES it more than its own, else it stays" */
    private static void goesOnlyIfLikedMore() {
        LighthouseLiedTo x = with("shines belief ; fades 0 ; fears 0 ;");
        x.ship(0, 1400);
        x.tell(14, 50);
        x.tell(8, 50);
        Due.due("of like it stays", x.told(0, 5), 14);
        x.tell(8, 1);
        Due.due("of 1 more it goes", x.told(0, 5), 8);
        x.tell(15, 52);
        Due.due("of two it goes to the most liked", x.told(0, 5), 15);
        x.tell(8, 2);
        Due.due("also if that comes later", x.told(0, 5), 8);
        x.tell(14, 3);
        Due.due("of like its own with the most liked it stays", x.told(0, 5), 14);
        Due.due("so it does", x.night(), 0);
        Due.due("it is where it was", x.told(0, 0), 14);
    }

    /** "BELIEF (0 .. 99; 0 at first)", "0 .. 99, else the bound" */
    private static void beliefIsBound() {
        LighthouseLiedTo x = new LighthouseLiedTo();
        Due.due("just 99", x.tell(0, 99), 99);
        Due.due("just above", x.tell(0, 1), 99);
        Due.due("far above", x.tell(0, 99), 99);
        Due.due("just 0", x.tell(0, -99), 0);
        Due.due("just below", x.tell(0, -1), 0);
        Due.due("far below", x.tell(0, -99), 0);
        Due.due("98", x.tell(35, 98), 98);
        Due.due("1 to the bound", x.tell(35, 1), 99);
        Due.due("nothing more", x.tell(35, 0), 99);
    }

    /** "BELIEF of it is more by v by (1 and DOUBT by 10) (both cut toward 0)": v, of what is below 0, too. */
    private static void toldIsCut() {
        int[][] cuts = {{-1, 10, 0}, {-2, 10, -1}, {-3, 10, -1}, {-55, 10, -27}, {-99, 20, -33}, {-98, 20, -32},
            {-97, 20, -32}, {-99, 30, -24}, {-9, 99, 0}, {-10, 99, -1}, {-99, 99, -9}, {1, 10, 0}, {3, 10, 1},
            {47, 20, 15}, {9, 99, 0}, {10, 99, 1}};
        for (int[] cut : cuts) {
            LighthouseLiedTo x = new LighthouseLiedTo();
            x.tell(7, 50);
            x.doubts(cut[1]);
            Due.due("told by " + cut[0] + " at doubt " + cut[1], x.tell(7, cut[0]), 50 + cut[2]);
        }
    }

    /** As above: DOUBT by 10, at each ten's edge. */
    private static void toldByDoubt() {
        LighthouseLiedTo x = new LighthouseLiedTo();
        for (int tens = 0; tens < 10; tens++) {
            for (int doubt = 10 * tens; doubt < 10 * tens + 10; doubt += 9) {
                x.doubts(doubt);
                Due.due("60 at doubt " + doubt, x.tell(tens, 60), 60 / (tens + 1));
                x.doubts(0);
                Due.due("none again", x.tell(tens, -60), 0);
            }
        }
    }

    private static int doubtBehindALossAt(int doubt) {
        LighthouseLiedTo x = with(STILL);
        x.rock(9, 1);
        x.ship(0, 900);
        x.doubts(doubt);
        Due.due("it is lost", x.night(), 1);
        return x.count(3);
    }

    /** "DOUBT is 1 more (99 at most)" */
    private static void doubtIsBound() {
        Due.due("0 and 1", doubtBehindALossAt(0), 1);
        Due.due("97 and 1", doubtBehindALossAt(97), 98);
        Due.due("98 and 1", doubtBehindALossAt(98), 99);
        Due.due("99 and no more", doubtBehindALossAt(99), 99);
        LighthouseLiedTo x = with(STILL);
        x.rock(9, 1);
        x.doubts(97);
        for (int s = 0; s < 4; s++) {
            // They teach nothing, so that the belief stays below 50 for each.
            x.ship(30, 900);
        }
        Due.due("four are lost", x.night(), 15);
        Due.due("99 for all of them", x.count(3), 99);
    }

    /** "SINKS just if DRAUGHT is above MORE", with MORE 0 .. 9, DRAUGHT 0 .. 99 at their bounds */
    private static void draughtAgainstMore() {
        int[][] rows = {{0, 0, 0}, {0, 1, 1}, {0, 99, 1}, {5, 4, 0}, {5, 5, 0}, {5, 6, 1}, {9, 0, 0}, {9, 9, 0},
            {9, 10, 1}, {9, 99, 1}};
        for (int[] row : rows) {
            for (int kind = 2; kind <= 4; kind += 2) {
                LighthouseLiedTo x = with(STILL);
                x.rock(0, 1);
                Due.due("a ship", x.ship(10 * kind + row[0], row[1]), 0);
                String what = "kind " + kind + ", more " + row[0] + ", draught " + row[1];
                Due.due(what + " sinks", x.told(0, 6), row[2]);
                Due.due(what + " is lost", x.night(), row[2]);
            }
        }
    }

    /** "LIKES 20 more, if the ROW is MORE modulo 6" */
    private static void moreModuloSix() {
        int[] rowOf = {0, 1, 2, 3, 4, 5, 0, 1, 2, 3};
        for (int more = 0; more < 10; more++) {
            LighthouseLiedTo x = with("shines 7 + column ; fades 0 ; fears 0 ;");
            x.ship(20 + more, 0);
            x.ship(40 + more, 0);
            for (int row = 0; row < 6; row++) {
                int extra = row == rowOf[more] ? 20 : 0;
                Due.due("a barge of " + more + " in row " + row, x.likes(0, 6 * row + 5), 12 + extra);
                Due.due("a raft of " + more + " in row " + row, x.likes(1, 6 * row + 5), extra == 0 ? 1 : 3);
                Due.due("in column 0, too", x.likes(0, 6 * row), 7 + extra);
            }
        }
    }

    /** "LIKES CELL (4 times MORE, modulo 36) by 99, all others by what it FEARS" */
    private static void ghostsCell() {
        int[] cellOf = {0, 4, 8, 12, 16, 20, 24, 28, 32, 0};
        for (int more = 0; more < 10; more++) {
            LighthouseLiedTo x = with("shines 50 ; fades 0 ; fears column - 3 ;");
            x.ship(50 + more, 0);
            for (int c = 0; c < 36; c++) {
                Due.due("a ghost of " + more + " likes " + c, x.likes(0, c), c == cellOf[more] ? 99 : c % 6 - 3);
            }
        }
    }

    /** "LIKES a tenth (cut) of a BARGE's": also what is below 0 is cut toward 0. */
    private static void raftsTenth() {
        int[][] rows = {{99, 9}, {10, 1}, {9, 0}, {0, 0}, {-9, 0}, {-10, -1}, {-11, -1}, {-19, -1}, {-20, -2},
            {-95, -9}, {-99, -9}};
        for (int[] row : rows) {
            LighthouseLiedTo x = with("shines " + row[0] + " ; fades 0 ; fears 0 ;");
            x.ship(40, 0);
            Due.due("a tenth of " + row[0], x.likes(0, 6), row[1]);
            Due.due("a tenth of 20 more than " + row[0], x.likes(0, 0), (row[0] + 20) / 10);
        }
    }

    /** "SINKS as a BARGE, if NIGHT modulo 5 is 0, else not" */
    private static void raftsNight() {
        for (int night = 0; night < 12; night++) {
            LighthouseLiedTo x = with(STILL);
            for (int i = 0; i < night; i++) {
                x.night();
            }
            x.rock(0, 1);
            x.ship(43, 4);
            x.ship(43, 3);
            int sinks = night == 0 || night == 5 || night == 10 ? 1 : 0;
            Due.due("sinks in night " + night, x.told(0, 6), sinks);
            Due.due("flat enough in night " + night, x.told(1, 6), 0);
            Due.due("is lost in night " + night, x.night(), sinks);
        }
    }

    /** "POST: TEACHES half (cut)": 99 by 2; "WRECKER: TEACHES 0"; BARGE, RAFT as a SHIP. */
    private static void postsHalf() {
        int[] teaches = {99, 49, 99, 0, 99};
        for (int kind = 0; kind < 5; kind++) {
            LighthouseLiedTo x = with(STILL);
            x.rock(35, 1);
            x.ship(10 * kind, 3599);
            Due.due("it is lost", x.night(), 1);
            Due.due("taught by kind " + kind, x.believes(35), teaches[kind]);
        }
    }

    /** What they like of what is bound: less and 0 less go beyond the bound, a GHOST's and a SHIP's don't. */
    private static void likesOfBounds() {
        LighthouseLiedTo x = with("shines 9999 ; fades 0 ; fears -9999 ;");
        int[] likes = {99, 198, 99, -198, 9, -99};
        int[] inRow = {99, 198, 119, -198, 11, -99};
        for (int kind = 0; kind < 6; kind++) {
            x.ship(10 * kind + 1, 0);
            Due.due("likes of kind " + kind, x.likes(kind, 0), likes[kind]);
            Due.due("likes in its row of kind " + kind, x.likes(kind, 6), inRow[kind]);
        }
    }

    /** "of a CELL and a SHIP (or none): .. draught: DRAUGHT": what is BRIGHT and feared is told of the SHIP's own */
    private static void likesByDraught() {
        LighthouseLiedTo x = with("shines draught + column ; fades 0 ; fears draught * 3 - 7 ;");
        int[] draughts = {0, 1, 5, 12, 30, 20};
        int[] likes = {2, 3 + 4, 7 + 20, 29 - 14, (32 + 20) / 10, 53};
        for (int kind = 0; kind < 6; kind++) {
            x.ship(10 * kind + 1, draughts[kind]);
            Due.due("likes by draught, kind " + kind, x.likes(kind, 8), likes[kind]);
        }
        x.put(0, 1, 40);
        Due.due("of another draught", x.likes(0, 8), 42);
        x.put(1, 1, 40);
        Due.due("cut to 99 ahead of what is less", x.likes(1, 8), 42 - 99);
    }

    private static int doubtOfALossAtBelief(int belief) {
        LighthouseLiedTo x = with(STILL);
        x.rock(20, 1);
        x.tell(20, belief);
        x.ship(0, 2000);
        Due.due("it is lost", x.night(), 1);
        return x.count(3);
    }

    /** "if BELIEF of that CELL is below 50, DOUBT is 1 more" */
    private static void lossAtFifty() {
        Due.due("at 0", doubtOfALossAtBelief(0), 1);
        Due.due("at 49", doubtOfALossAtBelief(49), 1);
        Due.due("at 50", doubtOfALossAtBelief(50), 0);
        Due.due("at 51", doubtOfALossAtBelief(51), 0);
        Due.due("at 99", doubtOfALossAtBelief(99), 0);
    }

    private static int beliefOfALoss(int kind, int belief) {
        LighthouseLiedTo x = with(STILL);
        x.rock(20, 1);
        x.tell(20, belief);
        x.ship(10 * kind, 2001);
        Due.due("it is lost", x.night(), 1);
        return x.believes(20);
    }

    /** "BELIEF of it is what its loss TEACHES, if that is more" */
    private static void teachesIfMore() {
        Due.due("a ship at 98", beliefOfALoss(0, 98), 99);
        Due.due("a ship at 99", beliefOfALoss(0, 99), 99);
        Due.due("a post at 48", beliefOfALoss(1, 48), 49);
        Due.due("a post at 49", beliefOfALoss(1, 49), 49);
        Due.due("a post at 50", beliefOfALoss(1, 50), 50);
        Due.due("a post at 80", beliefOfALoss(1, 80), 80);
        Due.due("a wrecker at 0", beliefOfALoss(3, 0), 0);
        Due.due("a wrecker at 1", beliefOfALoss(3, 1), 1);
    }

    /** "CELL by CELL, by numbers, BELIEF is less by what fades says (0 at least)" */
    private static void fadesToNone() {
        LighthouseLiedTo x = with("shines 0 ; fades 5 ; fears 0 ;");
        int[] before = {0, 1, 4, 5, 6, 99};
        int[] behind = {0, 0, 0, 0, 1, 94};
        for (int i = 0; i < before.length; i++) {
            x.tell(7 * i, before[i]);
        }
        x.night();
        for (int i = 0; i < before.length; i++) {
            Due.due(before[i] + " fades", x.believes(7 * i), behind[i]);
        }
        x = with("shines 0 ; fades 0 - 9 ; fears 0 ;");
        x.tell(3, 40);
        x.night();
        Due.due("fades below 0 is none", x.believes(3), 40);
        x = with("shines 0 ; fades 9999 ; fears 0 ;");
        x.tell(3, 99);
        x.night();
        Due.due("fades at most", x.believes(3), 0);
    }

    /** "Of fades, and of how BRIGHT CELLS are without a SHIP: none" (none: DRAUGHT 0) */
    private static void fadesWithoutAShip() {
        LighthouseLiedTo x = with("shines column * (draught = 0) ; fades draught + 1 ; fears 0 ;");
        x.ship(50, 1477);
        x.tell(14, 30);
        x.tell(35, 30);
        Due.due("asked of the ship", x.asks(1, 14, 0), 78);
        Due.due("asked of none", x.asks(1, 14, -1), 1);
        Due.due("brightest without a ship", x.sea(1), Due.bits(5, 11, 17, 23, 29, 35));
        x.night();
        Due.due("fades where the ship is", x.believes(14), 29);
        Due.due("fades elsewhere", x.believes(35), 29);
    }

    /** "SHIP by SHIP, by numbers", "All told as it is then": the first one's loss is known to the second. */
    private static void shipByShip() {
        LighthouseLiedTo x = with("shines 99 - belief ; fades 0 ; fears 0 ;");
        x.rock(15, 1);
        x.rock(13, 1);
        x.tell(14, 99);
        for (int s = 0; s < 3; s++) {
            x.ship(0, 1400);
        }
        Due.due("the third goes where no rock is", x.night(), 3);
        Due.due("the first", x.told(0, 0), 15);
        Due.due("the second", x.told(1, 0), 13);
        Due.due("the third", x.told(2, 0), 20);
        x = with("shines 0 ; fades night * 10 + 1 ; fears 0 ;");
        x.tell(3, 40);
        x.night();
        Due.due("NIGHT is more at last only", x.believes(3), 39);
        x.night();
        Due.due("and is 1 then", x.believes(3), 28);
    }

    /** "SHIPS are numbered from 0 on, 6 at most": the sixth is one as the others, in thought and in an image, too. */
    private static void sixthShip() {
        LighthouseLiedTo x = new LighthouseLiedTo();
        for (int s = 0; s < 5; s++) {
            x.ship(50, 3500);
        }
        Due.due("the sixth", x.ship(29, 1242), 5);
        Due.due("an image", x.image(), 6);
        Due.due("goes in thought", x.run(1, 15), 18);
        Due.due("by its draught", x.draughts(0, 5, 0), -11);
        Due.told(x, 0, 18, 19);
        Due.due("it is its own", x.whose(0), 32);
        Due.due("by all draughts", x.draughts(0, 5, 0), 100);
        Due.due("by this MORE", x.kinds(0, 5, 1), Due.bits(3, 9));
        x.rock(18, 1);
        Due.due("42 is above 9", x.run(1, 0), 31);
        Due.due("it goes and is lost", x.night(), 32);
        Due.due("there", x.told(5, 0), 18);
        Due.due("it is lost", x.told(5, 4), 1);
        x.put(5, 1, 7);
        Due.due("back", x.back(), 6);
        Due.due("where it was", x.told(5, 0), 12);
        Due.due("its draught", x.told(5, 1), 42);
        Due.due("its kind", x.told(5, 2), 2);
        Due.due("its more", x.told(5, 3), 9);
        Due.due("afloat", x.told(5, 4), 0);
        Due.due("no seventh", x.ship(0, 0), -4);
    }
}
