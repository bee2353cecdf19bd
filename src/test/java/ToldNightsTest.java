/** Promises 25 to 31: told nights. */
public final class ToldNightsTest {
    private static final long ALL_CELLS = (1L << 36) - 1;

    public static void main(String[] args) {
        judges();
        judgesLost();
        refuses();
        kinds();
        places();
        draughts();
        whose();
        laws();
        films();
        Due.end();
    }

    private static LighthouseLiedTo oneShip() {
        LighthouseLiedTo x = new LighthouseLiedTo();
        x.ship(0, 0);
        return x;
    }

    /** 25 */
    private static void judges() {
        LighthouseLiedTo x = oneShip();
        Due.told(x, 0);
        Due.due("nothing told", x.judge(0, 0), -1);
        Due.told(x, 0, 1, 2, 3);
        Due.due("as it is", x.judge(0, 0), -1);
        Due.told(x, 0, 1, 2, 4);
        Due.due("the last is otherwise", x.judge(0, 0), 2);
        Due.told(x, 0, 0, 2, 4);
        Due.due("the first is otherwise", x.judge(0, 0), 0);
        Due.told(x, 0, 1, 2, 3, 4, 5, 11, 17, 23, 29, 35, 35, 35, 35, 35, 35, 35, 35, 35, 35, 35);
        Due.due("twenty", x.judge(0, 0), -1);
        x.cell(0, 19, 34);
        Due.due("the twentieth", x.judge(0, 0), 19);
        x.sheet(1, 0, 2);
        x.cell(1, 0, 257);
        x.cell(1, 1, -254);
        Due.due("of bytes", x.judge(1, 0), -1);
        x.sheet(1, 1, 2);
        x.cell(1, 0, 65537);
        x.cell(1, 1, -65534);
        Due.due("of shorts", x.judge(1, 0), -1);
        Due.told(x, 1, 65537);
        Due.due("of ints", x.judge(1, 0), 0);
        Due.due("it is in thought", x.count(2), 0);
    }

    private static void judgesLost() {
        LighthouseLiedTo x = oneShip();
        x.rock(2, 1);
        Due.told(x, 0, 1, 2, 2, 2);
        Due.due("where it was lost", x.judge(0, 0), -1);
        x.night();
        x.night();
        Due.told(x, 0, 2, 2);
        Due.due("lost before", x.judge(0, 0), -1);
        Due.due("all kinds of a lost one", x.kinds(0, 0, 0), 63);
        Due.due("its place", x.places(0, 0), 4);
        Due.told(x, 0, 9, 9);
        Due.due("a place where it is lost, too", x.places(0, 0), 512);
        Due.due("lost elsewhere", x.judge(0, 0), 0);
    }

    private static void refuses() {
        LighthouseLiedTo x = oneShip();
        x.sheet(1, 2, 21);
        x.sheet(2, 2, 0);
        int[][] rows = {{-1, 9, -2}, {4, 9, -2}, {0, 9, -11}, {1, 9, -2}, {2, 9, -5}, {2, -1, -5}};
        for (int[] row : rows) {
            Due.due("judge", x.judge(row[0], row[1]), row[2]);
            Due.due("kinds", x.kinds(row[0], row[1], 9), row[2]);
            Due.due("places", x.places(row[0], row[1]), LighthouseLiedTo.NO);
            Due.due("draughts", x.draughts(row[0], row[1], 9), row[2]);
            Due.due("whose", x.whose(row[0]), row[2] == -5 ? 1 : row[2]);
            Due.due("laws", x.laws(row[0], row[1]), row[2]);
        }
        Due.due("kinds, sort -1", x.kinds(2, 0, -1), -7);
        Due.due("kinds, sort 2", x.kinds(2, 0, 2), -7);
        Due.due("draughts, what -1", x.draughts(2, 0, -1), -7);
        Due.due("draughts, what 2", x.draughts(2, 0, 2), -7);
        Due.due("whose of no ships", new LighthouseLiedTo().whose(0), -11);
    }

    /** 26 */
    private static void kinds() {
        LighthouseLiedTo x = new LighthouseLiedTo();
        x.ship(7, 1200);
        Due.told(x, 0);
        Due.due("all kinds", x.kinds(0, 0, 0), 63);
        Due.due("all of more", x.kinds(0, 0, 1), 1023);
        // At 12 (row 2): ships, posts go to 13, a barge (more 7: row 1) and a raft go to 6, a wrecker back, too.
        Due.told(x, 0, 13);
        Due.due("to 13", x.kinds(0, 0, 0), 3);
        Due.told(x, 0, 6);
        Due.due("to 6", x.kinds(0, 0, 0), Due.bits(2, 3, 4));
        Due.told(x, 0, 12);
        Due.due("to 12", x.kinds(0, 0, 0), Due.bits(5));
        x = new LighthouseLiedTo();
        x.ship(21, 1200);
        Due.told(x, 0, 6);
        Due.due("more by which a barge goes to 6", x.kinds(0, 0, 1), Due.bits(1, 7));
        Due.told(x, 0, 18);
        Due.due("more by which a barge goes to 18", x.kinds(0, 0, 1), Due.bits(3, 9));
        Due.due("its more is as it was", x.told(0, 3), 1);
        Due.due("its kind is as it was", x.told(0, 2), 2);
    }

    /** 27 */
    private static void places() {
        LighthouseLiedTo x = oneShip();
        Due.told(x, 0);
        Due.due("all places", x.places(0, 0), ALL_CELLS);
        Due.told(x, 0, 8);
        Due.due("to 8", x.places(0, 0), Due.bits(7));
        Due.told(x, 0, 11);
        Due.due("to 11", x.places(0, 0), Due.bits(5, 10));
        Due.told(x, 0, 35, 35);
        Due.due("to 35", x.places(0, 0), Due.bits(29, 34, 35));
        Due.told(x, 0, 36);
        Due.due("nowhere", x.places(0, 0), 0);
        Due.due("it is where it was", x.told(0, 0), 0);
    }

    /** 28 */
    private static void draughts() {
        LighthouseLiedTo x = new LighthouseLiedTo();
        x.ship(25, 700);
        x.rock(8, 1);
        x.rock(7, 1);
        x.rock(13, 1);
        Due.told(x, 0, 8, 8);
        Due.due("deep ones are lost", x.draughts(0, 0, 0), 94);
        Due.due("the least of them", x.draughts(0, 0, 1), 6);
        Due.told(x, 0, 8, 9);
        Due.due("flat ones are not", x.draughts(0, 0, 0), 6);
        Due.due("the least of these", x.draughts(0, 0, 1), 0);
        Due.told(x, 0, 0);
        Due.due("none", x.draughts(0, 0, 0), 0);
        Due.due("no least", x.draughts(0, 0, 1), -1);
        Due.due("its draught is as it was", x.told(0, 1), 0);
    }

    /** 29 */
    private static void whose() {
        LighthouseLiedTo x = new LighthouseLiedTo();
        Due.told(x, 0);
        Due.due("no ship's", x.whose(0), 0);
        x.ship(0, 0);
        x.ship(50, 100);
        x.ship(10, 0);
        Due.due("all ships'", x.whose(0), 7);
        Due.told(x, 0, 1, 2);
        Due.due("two ships'", x.whose(0), 5);
        Due.told(x, 0, 1, 1);
        Due.due("none's", x.whose(0), 0);
    }

    /** 30 */
    private static void laws() {
        LighthouseLiedTo x = oneShip();
        Due.textOf(x, "shines row ; fades 0 ; fears 0 ;");
        Due.textOf(x, "shines column ; fades 0 ; fears 0 ;");
        Due.textOf(x, "shines 0 ; fades 0 ; fears 0 ;");
        Due.told(x, 0);
        Due.due("all texts", x.laws(0, 0), 15);
        Due.told(x, 0, 1);
        Due.due("a column further", x.laws(0, 0), 5);
        Due.told(x, 0, 6);
        Due.due("a row further", x.laws(0, 0), 2);
        Due.told(x, 0, 0);
        Due.due("nowhere", x.laws(0, 0), 8);
        Due.told(x, 0, 7);
        Due.due("none", x.laws(0, 0), 0);
        Due.due("the law is as it was", x.count(6), 0);
    }

    /** 31 */
    private static void films() {
        LighthouseLiedTo x = oneShip();
        x.sheet(0, 2, 40);
        Due.due("film", x.film(0, 0, 3), 3);
        Due.due("as told", x.judge(0, 0), -1);
        Due.due("three numbers", x.cell(0, 3, 0), -12);
        Due.due("of bytes, another's", x.sheet(1, 0, 3), 1);
        Due.due("of bytes", x.copy(0, 0, 1, 0, 3), 3);
        Due.due("the copy", x.judge(1, 0), -1);
        Due.due("it is in thought", x.told(0, 0), 0);
        Due.due("film 0", x.film(2, 0, 0), 0);
        Due.due("a row of none", x.judge(2, 0), -1);
        Due.due("film 20", x.film(3, 0, 20), 20);
        Due.due("as told to the end", x.judge(3, 0), -1);
        Due.due("film 21", x.film(0, 0, 21), -7);
        Due.due("film -1", x.film(0, 0, -1), -7);
        Due.due("no ship", x.film(0, 1, 21), -5);
        Due.due("ship -1", x.film(0, -1, 0), -5);
        Due.due("sheet 4", x.film(4, 1, 21), -2);
        Due.due("sheet -1", x.film(-1, 0, 0), -2);
        Due.due("refused ones change nothing", x.judge(0, 0), -1);
        x.put(0, 0, 35);
        Due.due("of another place", x.judge(0, 0), 0);
    }
}
