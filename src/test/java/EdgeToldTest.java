/** The bounds of promises 25 to 31: a SHEET that is missing, empty, of 20, of 21; no such SHIP; the LOST. */
public final class EdgeToldTest {
    private static final int LEAST = Integer.MIN_VALUE, MOST = Integer.MAX_VALUE;
    private static final long NO = LighthouseLiedTo.NO, ALL = (1L << 36) - 1;
    private static final String STILL = "shines 0 ; fades 0 ; fears 0 ;";

    public static void main(String[] args) {
        refusedSheets();
        refusedShips();
        refusedWhats();
        whoseRefuses();
        emptySheets();
        sheetsOfTwenty();
        twentiethNumber();
        firstNumber();
        numbersThatAreNoCells();
        unlikeSorts();
        toldOnBehindALoss();
        lostBeforeAll();
        kindsAll();
        moreAll();
        placesAll();
        draughtsAll();
        whoseAll();
        lawsAll();
        filmNumbers();
        films();
        filmOfTheLost();
        changesNothing();
        Due.end();
    }

    private static LighthouseLiedTo with(String text) {
        LighthouseLiedTo x = new LighthouseLiedTo();
        Due.due(text, x.force(Due.textOf(x, text)), 0);
        return x;
    }

    /** What each of promises 25 to 30 answers: kinds and draughts by a sort, a what that are as told or not. */
    private static void all(LighthouseLiedTo x, int q, int s, int what, int due) {
        String of = " of sheet " + q + ", ship " + s + ", " + what;
        Due.due("25: judge" + of, x.judge(q, s), due);
        Due.due("26: kinds" + of, x.kinds(q, s, what), due);
        Due.due("27: places" + of, x.places(q, s), NO);
        Due.due("28: draughts" + of, x.draughts(q, s, what), due);
        Due.due("30: laws" + of, x.laws(q, s), due);
    }

    /** "BAD: SHEET; -11; BAD: it tells more than 20", each ahead of "-5: no such SHIP" and of "-7" */
    private static void refusedSheets() {
        LighthouseLiedTo x = new LighthouseLiedTo();
        for (int ships = 0; ships < 2; ships++) {
            for (int s = 0; s < 7; s += 6) {
                for (int q : new int[] {-1, 4, LEAST, MOST}) {
                    all(x, q, s, 0, -2);
                    all(x, q, s, 2, -2);
                }
                all(x, 0, s, 0, -11);
                all(x, 3, s, -1, -11);
                x.sheet(1, 0, 21);
                x.sheet(2, 2, 40);
                all(x, 1, s, 1, -2);
                all(x, 2, s, 2, -2);
            }
            x.ship(0, 0);
        }
    }

    /** "-5: no such SHIP", ahead of "-7" */
    private static void refusedShips() {
        LighthouseLiedTo x = new LighthouseLiedTo();
        x.sheet(0, 0, 0);
        x.sheet(3, 2, 20);
        all(x, 0, 0, 0, -5);
        x.ship(0, 0);
        for (int s : new int[] {-1, 1, 5, 6, LEAST, MOST}) {
            all(x, 0, s, 0, -5);
            all(x, 3, s, 2, -5);
        }
    }

    /** 26: "-7: sort."; 28: "-7: what." */
    private static void refusedWhats() {
        LighthouseLiedTo x = new LighthouseLiedTo();
        x.ship(0, 0);
        x.sheet(0, 0, 0);
        for (int what : new int[] {-1, 2, LEAST, MOST}) {
            Due.due("26: sort " + what, x.kinds(0, 0, what), -7);
            Due.due("28: what " + what, x.draughts(0, 0, what), -7);
        }
    }

    /** 29: "BAD, -11, BAD likewise." Without a SHIP it is no refusal: none of them. */
    private static void whoseRefuses() {
        LighthouseLiedTo x = new LighthouseLiedTo();
        for (int q : new int[] {-1, 4, LEAST, MOST}) {
            Due.due("29: sheet " + q, x.whose(q), -2);
        }
        Due.due("29: missing", x.whose(3), -11);
        x.sheet(0, 0, 20);
        x.sheet(1, 1, 21);
        x.sheet(2, 2, 40);
        Due.due("29: no ships, of 20", x.whose(0), 0);
        Due.due("29: of 21", x.whose(1), -2);
        Due.due("29: of 40", x.whose(2), -2);
        x.sheet(1, -1, 0);
        Due.due("29: missing again", x.whose(1), -11);
    }

    /** A SHEET that tells nothing tells nothing otherwise. */
    private static void emptySheets() {
        LighthouseLiedTo x = new LighthouseLiedTo();
        x.ship(0, 0);
        x.ship(59, 3599);
        Due.textOf(x, STILL);
        for (int sort = 0; sort < 3; sort++) {
            x.sheet(sort, sort, 0);
            Due.due("25: empty", x.judge(sort, 1), -1);
            Due.due("26: empty, kinds", x.kinds(sort, 1, 0), 63);
            Due.due("26: empty, more", x.kinds(sort, 1, 1), 1023);
            Due.due("27: empty", x.places(sort, 1), ALL);
            Due.due("28: empty, how many", x.draughts(sort, 1, 0), 100);
            Due.due("28: empty, the least", x.draughts(sort, 1, 1), 0);
            Due.due("29: empty", x.whose(sort), 3);
            Due.due("30: empty", x.laws(sort, 1), 3);
        }
    }

    /** "20 at most": of 20 it is judged, of 21 it is BAD */
    private static void sheetsOfTwenty() {
        LighthouseLiedTo x = with(STILL);
        x.ship(0, 0);
        for (int sort = 0; sort < 3; sort++) {
            x.sheet(sort, sort, 20);
            Due.due("25: 20", x.judge(sort, 0), -1);
            Due.due("26: 20", x.kinds(sort, 0, 0), 63);
            Due.due("27: 20", x.places(sort, 0), 1);
            Due.due("28: 20", x.draughts(sort, 0, 0), 100);
            Due.due("29: 20", x.whose(sort), 1);
            Due.due("30: 20", x.laws(sort, 0), 2);
            x.sheet(sort, sort, 21);
            all(x, sort, 0, 0, -2);
            Due.due("29: 21", x.whose(sort), -2);
        }
    }

    /** All twenty count: what is otherwise in the last alone, is. */
    private static void twentiethNumber() {
        LighthouseLiedTo x = with("shines (18 < night) * column ; fades 0 ; fears 0 ;");
        x.ship(0, 0);
        x.sheet(0, 0, 20);
        Due.due("25: the twentieth, from 0", x.judge(0, 0), 19);
        Due.due("27: nowhere", x.places(0, 0), 0);
        Due.due("29: none's", x.whose(0), 0);
        Due.due("30: by the other text", x.laws(0, 0), 0);
        x.cell(0, 19, 1);
        Due.due("25: as it is", x.judge(0, 0), -1);
        Due.due("27: from 0", x.places(0, 0), 1);
        Due.due("29: its own", x.whose(0), 1);
        Due.due("30: by this text", x.laws(0, 0), 2);
        x.sheet(1, 0, 19);
        Due.due("25: of nineteen", x.judge(1, 0), -1);
    }

    /** 25: "the first number (from 0) that is otherwise", whatever comes behind it */
    private static void firstNumber() {
        LighthouseLiedTo x = new LighthouseLiedTo();
        x.ship(50, 900);
        for (int first = 0; first < 20; first++) {
            x.sheet(0, 0, 20);
            for (int i = 0; i < 20; i++) {
                x.cell(0, i, i == first || i > first && i % 2 == 0 ? 8 : 0);
            }
            x.put(0, 0, 0);
            Due.due("25: the first otherwise", x.judge(0, 0), first);
        }
    }

    /** Numbers that are no CELLS are otherwise, wherever the SHIP is. */
    private static void numbersThatAreNoCells() {
        LighthouseLiedTo x = new LighthouseLiedTo();
        x.ship(50, 3500);
        for (int number : new int[] {-1, 36, 35 + 256, 35 - 256, 35 + 65536, LEAST, MOST}) {
            Due.told(x, 0, 35, number);
            Due.due("25: " + number, x.judge(0, 0), 1);
            Due.due("27: " + number, x.places(0, 0), 0);
            Due.due("28: " + number, x.draughts(0, 0, 1), -1);
            Due.due("29: " + number, x.whose(0), 0);
        }
    }

    /** SHEETS of all sorts tell alike: a byte, a short of a number's lowest bits */
    private static void unlikeSorts() {
        LighthouseLiedTo x = new LighthouseLiedTo();
        x.ship(50, 3500);
        int[] beyond = {256, 65536};
        for (int sort = 0; sort < 2; sort++) {
            x.sheet(0, sort, 2);
            x.cell(0, 0, 35 + beyond[sort]);
            x.cell(0, 1, 35 - beyond[sort]);
            Due.due("25: of sort " + sort, x.judge(0, 0), -1);
            x.cell(0, 1, 35 + beyond[sort] / 2);
            Due.due("25: its highest bit, of sort " + sort, x.judge(0, 0), 1);
        }
        x.sheet(0, 2, 1);
        x.cell(0, 0, 35);
        Due.due("25: of ints", x.judge(0, 0), -1);
    }

    /** "LOST: where it was LOST", where the SHEET tells on */
    private static void toldOnBehindALoss() {
        LighthouseLiedTo x = new LighthouseLiedTo();
        x.ship(0, 0);
        x.rock(2, 1);
        Due.told(x, 0, 1, 2, 2, 2, 2, 2, 2, 2, 2, 2, 2, 2, 2, 2, 2, 2, 2, 2, 2, 2);
        Due.due("25: it stays there", x.judge(0, 0), -1);
        Due.due("29: its own", x.whose(0), 1);
        Due.due("28: by all draughts", x.draughts(0, 0, 0), 100);
        Due.due("26: what sinks always", x.kinds(0, 0, 0), 3);
        x.cell(0, 2, 3);
        Due.due("25: it does not go on", x.judge(0, 0), 2);
        x.cell(0, 2, 2);
        x.cell(0, 19, 3);
        Due.due("25: not in the twentieth night either", x.judge(0, 0), 19);
        Due.due("31: film of it", x.film(1, 0, 20), 20);
        x.cell(0, 19, 2);
        Due.due("25: tells so", x.judge(1, 0), -1);
    }

    /** LOST already: it is where it is, in all these nights, whatever it were */
    private static void lostBeforeAll() {
        LighthouseLiedTo x = new LighthouseLiedTo();
        x.ship(0, 0);
        x.rock(1, 1);
        x.night();
        Due.textOf(x, STILL);
        Due.told(x, 0, 1, 1, 1);
        Due.due("25: lost", x.judge(0, 0), -1);
        Due.due("26: of any kind", x.kinds(0, 0, 0), 63);
        Due.due("26: by any more", x.kinds(0, 0, 1), 1023);
        Due.due("27: just there", x.places(0, 0), 2);
        Due.due("28: of any draught", x.draughts(0, 0, 0), 100);
        Due.due("29: its own", x.whose(0), 1);
        Due.due("30: by any text", x.laws(0, 0), 3);
        Due.told(x, 0, 2);
        Due.due("25: it does not go on", x.judge(0, 0), 0);
        Due.due("26: as no kind", x.kinds(0, 0, 0), 0);
    }

    /** 26: "KINDS (sort 0; bits 0 .. 5)": the first and the last bit, and none */
    private static void kindsAll() {
        // From cell 14, with MORE 3: a barge's row is 20's, a ghost's own is 12; posts go back, wreckers as ships.
        LighthouseLiedTo x = with("shines 50 + column ; fades 0 ; fears 2 * column ;");
        x.ship(3, 1400);
        int[][] rows = {{15, 1 | 8 | 32}, {13, 2}, {20, 4 | 16}, {14, 0}, {8, 0}};
        for (int[] row : rows) {
            Due.told(x, 0, row[0]);
            Due.due("26: kinds that go to " + row[0], x.kinds(0, 0, 0), row[1]);
        }
        Due.due("26: its kind", x.told(0, 2), 0);
        Due.due("26: its more", x.told(0, 3), 3);
    }

    /** 26: "MORE (1; bits 0 .. 9)": the first and the last bit */
    private static void moreAll() {
        LighthouseLiedTo x = new LighthouseLiedTo();
        x.ship(54, 0);
        // A ghost that likes its own cell stays there, and else, as nothing is feared, stays as well.
        Due.told(x, 0, 0);
        Due.due("26: by all it stays", x.kinds(0, 0, 1), 1023);
        x.put(0, 0, 10);
        Due.told(x, 0, 4);
        Due.due("26: by 1 to 4", x.kinds(0, 0, 1), 2);
        x.put(0, 0, 6);
        Due.told(x, 0, 0);
        Due.due("26: by 0 and 9 to 0", x.kinds(0, 0, 1), 1 | 1 << 9);
        x.put(0, 0, 33);
        Due.told(x, 0, 32);
        Due.due("26: by 8 to 32", x.kinds(0, 0, 1), 1 << 8);
        Due.due("26: its more", x.told(0, 3), 4);
    }

    /** 27: CELLS 0 and 35 among them */
    private static void placesAll() {
        LighthouseLiedTo x = with(STILL);
        x.ship(0, 1700);
        for (int c = 0; c < 36; c++) {
            Due.told(x, 0, c, c);
            Due.due("27: just " + c, x.places(0, 0), 1L << c);
        }
        Due.told(x, 0, 3, 4);
        Due.due("27: none", x.places(0, 0), 0);
        Due.due("27: it is where it was", x.told(0, 0), 17);
    }

    /** 28: "DRAUGHTS (0 .. 99)": 0 and 99 among them; "how many (what 0), the least (1; -1: none)" */
    private static void draughtsAll() {
        int[][] rows = {{0, 1, 0}, {1, 1, 1}, {98, 1, 98}, {99, 1, 99}, {100, 0, -1}};
        for (int[] row : rows) {
            LighthouseLiedTo x = with("shines (draught = " + row[0] + ") * column ; fades 0 ; fears 0 ;");
            x.ship(0, 50);
            Due.told(x, 0, 1);
            Due.due("28: how many of " + row[0], x.draughts(0, 0, 0), row[1]);
            Due.due("28: the least of " + row[0], x.draughts(0, 0, 1), row[2]);
            Due.told(x, 0, 0);
            Due.due("28: all others", x.draughts(0, 0, 0), 100 - row[1]);
            Due.due("28: the least other one", x.draughts(0, 0, 1), row[0] == 0 ? 1 : 0);
            Due.due("28: its draught", x.told(0, 1), 50);
        }
    }

    /** 29: each of six by its bit; those that are LOST, too */
    private static void whoseAll() {
        LighthouseLiedTo x = with(STILL);
        for (int s = 0; s < 6; s++) {
            x.ship(0, 100 * (s / 2));
        }
        for (int c = 0; c < 4; c++) {
            Due.told(x, 0, c);
            Due.due("29: those in " + c, x.whose(0), c < 3 ? 3 << 2 * c : 0);
        }
        x.rock(2, 1);
        Due.due("29: the last two are lost", x.night(), 48);
        Due.told(x, 0, 2, 2);
        Due.due("29: those that are lost", x.whose(0), 48);
    }

    /** 30: "TEXTS (bits), were they THE LAW": each of six by its bit, and none that isn't there yet */
    private static void lawsAll() {
        LighthouseLiedTo x = new LighthouseLiedTo();
        x.ship(0, 1400);
        int[] to = {15, 15, 13, 20, 8, 14};
        String[] shines = {"", "column", "0 - column", "row", "0 - row", "0"};
        for (int t = 1; t < 6; t++) {
            Due.told(x, 0, to[t]);
            int ahead = t == 1 ? 1 : 0;
            Due.due("30: ahead of text " + t, x.laws(0, 0), ahead);
            Due.due("30: text " + t, Due.textOf(x, "shines " + shines[t] + ";fades 0;fears 0;"), t);
            Due.due("30: by it", x.laws(0, 0), ahead | 1 << t);
        }
        Due.due("30: the law is as it was", x.count(6), 0);
        x.force(5);
        Due.told(x, 0, 13);
        Due.due("30: by another than the law", x.laws(0, 0), 4);
        Due.due("30: the law is 5", x.count(6), 5);
    }

    /** 31: "BAD: SHEET; -5: no such SHIP; -7: n." (0 .. 20), in this order; a refused one leaves the SHEET */
    private static void filmNumbers() {
        LighthouseLiedTo x = new LighthouseLiedTo();
        Due.due("31: no ship yet", x.film(0, 0, 0), -5);
        x.ship(0, 0);
        Due.told(x, 0, 1, 2, 3);
        String before = Seen.of(x);
        for (int q : new int[] {-1, 4, LEAST, MOST}) {
            Due.due("31: sheet " + q, x.film(q, 0, 0), -2);
            Due.due("31: sheet " + q + " ahead of the ship", x.film(q, 1, 0), -2);
            Due.due("31: sheet " + q + " ahead of n", x.film(q, 0, 21), -2);
        }
        for (int s : new int[] {-1, 1, 6, LEAST, MOST}) {
            Due.due("31: ship " + s, x.film(0, s, 0), -5);
            Due.due("31: ship " + s + " ahead of n", x.film(0, s, 21), -5);
        }
        for (int n : new int[] {-1, 21, LEAST, MOST}) {
            Due.due("31: n " + n, x.film(0, 0, n), -7);
        }
        Due.holds("31: nothing is other", Seen.of(x).equals(before));
    }

    /** 31: "A SHEET truly becomes the CELL of a SHIP behind 1, .., n NIGHTS (0 .. 20; bytes): n." */
    private static void films() {
        LighthouseLiedTo x = new LighthouseLiedTo();
        x.ship(0, 0);
        for (int q = 0; q < 4; q++) {
            x.sheet(q, 2, 40);
        }
        x.sheet(3, -1, 0);
        x.sheet(1, 0, 0);
        Due.due("31: 0", x.film(0, 0, 0), 0);
        Due.due("31: none is in it", x.copy(0, 0, 0, 0, 1), -12);
        Due.due("31: bytes also of none", x.copy(0, 0, 1, 0, 0), 0);
        Due.due("31: 1, of a missing one", x.film(3, 0, 1), 1);
        Due.due("31: it has 1", x.copy(3, 0, 3, 0, 1), 1);
        Due.due("31: and no 2", x.copy(3, 0, 3, 0, 2), -12);
        Due.due("31: behind 1 night", x.places(3, 0), 1);
        Due.due("31: 20, of ints", x.film(2, 0, 20), 20);
        Due.due("31: it has 20", x.copy(2, 0, 2, 0, 20), 20);
        Due.due("31: and no 21", x.copy(2, 0, 2, 0, 21), -12);
        Due.due("31: as judged", x.judge(2, 0), -1);
        Due.due("31: of bytes", x.copy(2, 0, 3, 0, 1), 1);
        Due.due("31: the ship is where it was", x.told(0, 0), 0);
        Due.due("31: no night passed", x.count(2), 0);
        // By a text that keeps ships where they are, places() tells a number.
        x.force(Due.textOf(x, STILL));
        int[] way = {1, 2, 3, 4, 5, 11, 17, 23, 29, 35};
        for (int i = 0; i < 20; i++) {
            x.copy(2, i, 3, 0, 1);
            Due.due("31: number " + i, x.places(3, 0), 1L << (i < 10 ? way[i] : 35));
        }
    }

    /** 31: of a SHIP that is LOST, in its nights or before: where it was LOST */
    private static void filmOfTheLost() {
        LighthouseLiedTo x = new LighthouseLiedTo();
        x.ship(0, 0);
        x.rock(2, 1);
        x.film(0, 0, 5);
        Due.told(x, 1, 1, 2, 2, 2, 2);
        Due.due("31: as told", x.judge(1, 0), -1);
        Due.due("31: as filmed", x.judge(0, 0), -1);
        x.night();
        x.night();
        Due.due("31: the film stays", x.judge(0, 0), 0);
        Due.due("31: of the lost one", x.film(0, 0, 3), 3);
        Due.due("31: where it was lost", x.judge(0, 0), -1);
        Due.due("31: that is 2", x.places(0, 0), 4);
    }

    /** "What is asked changes nothing", and "They change nothing" of refusals */
    private static void changesNothing() {
        LighthouseLiedTo x = new LighthouseLiedTo();
        x.ship(0, 0);
        x.ship(29, 1242);
        x.rock(2, 1);
        x.tell(3, 70);
        Due.told(x, 0, 1, 2, 2);
        Due.told(x, 1, 18, 19, 20);
        x.sheet(2, 1, 21);
        String before = Seen.of(x);
        for (int q = -1; q < 4; q++) {
            for (int s = -1; s < 3; s++) {
                x.judge(q, s);
                x.places(q, s);
                x.laws(q, s);
                for (int what = 0; what < 3; what++) {
                    x.kinds(q, s, what);
                    x.draughts(q, s, what);
                }
            }
            x.whose(q);
        }
        Due.holds("nothing is other", Seen.of(x).equals(before));
    }
}
