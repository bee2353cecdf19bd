/** The bounds of promises 14 to 19: each argument just inside and just outside, the LOST, NIGHT 999. */
public final class EdgeNightsTest {
    private static final int LEAST = Integer.MIN_VALUE, MOST = Integer.MAX_VALUE;
    private static final long NO = LighthouseLiedTo.NO, ALL = (1L << 36) - 1;
    private static final String STILL = "shines 0 ; fades 0 ; fears 0 ;";

    public static void main(String[] args) {
        likes();
        nights();
        nightOfNone();
        lastNight();
        runNumbers();
        runShips();
        runCells();
        runsOfNoNight();
        runsOfForty();
        lostByOrder();
        lostByNights();
        lostByOfTheLost();
        trackNumbers();
        tracks();
        seaNumbers();
        brightest();
        believedWrongly();
        changesNothing();
        Due.end();
    }

    private static LighthouseLiedTo with(String text) {
        LighthouseLiedTo x = new LighthouseLiedTo();
        Due.due(text, x.force(Due.textOf(x, text)), 0);
        return x;
    }

    /** 14: "How much a SHIP LIKES a CELL (any). -100000: none such." */
    private static void likes() {
        LighthouseLiedTo x = new LighthouseLiedTo();
        Due.due("14: no ship yet", x.likes(0, 0), -100000);
        x.ship(0, 0);
        for (int s : new int[] {-1, 1, 6, LEAST, MOST}) {
            Due.due("14: ship " + s, x.likes(s, 0), -100000);
        }
        for (int c : new int[] {-1, 36, LEAST, MOST}) {
            Due.due("14: cell " + c, x.likes(0, c), -100000);
        }
        for (int c = 0; c < 36; c++) {
            Due.due("14: any cell, " + c, x.likes(0, c), 50 + c % 6 + c / 6);
        }
        x.rock(1, 1);
        Due.due("14: it is lost", x.night(), 1);
        Due.due("14: what a lost one likes", x.likes(0, 35), 60);
    }

    /** 15: "which SHIPS are LOST in it (bits)": not those of nights before, each its own bit */
    private static void nights() {
        LighthouseLiedTo x = with(STILL);
        for (int s = 0; s < 6; s++) {
            x.ship(0, 100 * s);
        }
        int[] order = {5, 0, 3, 2, 4, 1};
        for (int s : order) {
            x.rock(s, 1);
            Due.due("15: ship " + s + " alone", x.night(), 1 << s);
            Due.due("15: none a second time", x.night(), 0);
        }
        Due.due("15: twelve nights", x.count(2), 12);
        Due.due("15: none afloat", x.count(1), 0);
    }

    /** 15: without a SHIP a NIGHT passes as well: it fades, NIGHT is 1 more */
    private static void nightOfNone() {
        LighthouseLiedTo x = new LighthouseLiedTo();
        x.tell(0, 5);
        x.rock(0, 1);
        Due.due("15: none lost", x.night(), 0);
        Due.due("15: 1", x.count(2), 1);
        Due.due("15: it fades", x.believes(0), 2);
        Due.due("15: 2", x.night() + x.count(2), 2);
        Due.due("15: to none", x.believes(0), 0);
        Due.due("15: no doubt of it", x.count(3), 0);
    }

    /** 15: "STATE: NIGHT is 999." It lies past the 512th call, where nothing is promised; it holds all the same. */
    private static void lastNight() {
        LighthouseLiedTo x = with("shines 0 ; fades night - 990 ; fears 0 ;");
        x.ship(0, 700);
        for (int i = 0; i < 998; i++) {
            x.night();
        }
        Due.due("15: 998", x.count(2), 998);
        x.tell(35, 50);
        Due.due("15: the last one", x.night(), 0);
        Due.due("15: 999", x.count(2), 999);
        Due.due("15: it fades", x.believes(35), 42);
        x.rock(7, 1);
        String before = Seen.of(x);
        Due.due("15: STATE", x.night(), -3);
        Due.due("15: STATE again", x.night(), -3);
        Due.holds("15: nothing is other", Seen.of(x).equals(before));
        Due.due("16: in thought it goes on", x.run(1, 0), 0);
        Due.due("16: and is told as it is then", x.run(2, 55), 42 - 9 - 10);
        Due.due("17: it is lost in thought", x.lostBy(0, 0), 1);
        Due.due("34: an image of it", x.image(), 1);
        Due.due("35: back", x.back(), 1);
        Due.due("15: STATE still", x.night(), -3);
    }

    /** 16: "n NIGHTS (0 .. 40)", what 0, 1, 2: "BAD." */
    private static void runNumbers() {
        LighthouseLiedTo x = new LighthouseLiedTo();
        x.ship(0, 0);
        for (int n : new int[] {-1, 41, LEAST, MOST}) {
            for (int what : new int[] {0, 1, 2, 10, 20, 55}) {
                Due.due("16: n " + n + ", what " + what, x.run(n, what), -2);
            }
        }
        for (int n = 0; n <= 40; n += 40) {
            for (int what : new int[] {-1, 3, 9, 11, 15, 16, 19, 56, LEAST, MOST}) {
                Due.due("16: n " + n + ", what " + what, x.run(n, what), -2);
            }
        }
    }

    /** 16: "the CELL of SHIP what less 10 (10 ..)": just those that there are */
    private static void runShips() {
        LighthouseLiedTo x = with(STILL);
        for (int s = 0; s < 6; s++) {
            Due.due("16: none yet", x.run(0, 10 + s), -2);
            x.ship(50, 100 * (s + 20));
            Due.due("16: ship " + s, x.run(0, 10 + s), s + 20);
            Due.due("16: ship " + s + " behind 40", x.run(40, 10 + s), s + 20);
        }
        Due.due("16: no seventh", x.run(0, 16), -2);
        Due.due("16: all afloat", x.run(40, 0), 63);
    }

    /** 16: "BELIEF of CELL what less 20 (20 .. 55)" */
    private static void runCells() {
        LighthouseLiedTo x = new LighthouseLiedTo();
        for (int c = 0; c < 36; c++) {
            x.tell(c, c + 10);
        }
        for (int c = 0; c < 36; c++) {
            Due.due("16: belief of " + c, x.run(0, 20 + c), c + 10);
            Due.due("16: belief of " + c + " then", x.run(4, 20 + c), Math.max(0, c - 2));
        }
        Due.due("16: together", x.run(0, 1), 35 * 18 + 360);
        Due.due("16: together then", x.run(4, 1), 33 * 17);
        Due.due("16: none is left", x.run(40, 1), 0);
    }

    /** 16: n 0: all as it is now, LOST ones left out of those AFLOAT */
    private static void runsOfNoNight() {
        LighthouseLiedTo x = with(STILL);
        x.ship(0, 300);
        x.ship(0, 400);
        x.rock(3, 1);
        x.night();
        x.doubts(77);
        Due.due("16: afloat", x.run(0, 0), 2);
        Due.due("16: belief", x.run(0, 1), 99);
        Due.due("16: doubt", x.run(0, 2), 77);
        Due.due("16: the lost one's cell", x.run(0, 10), 3);
        Due.due("16: and behind nights", x.run(40, 10), 3);
        Due.due("16: belief of cell 3", x.run(0, 23), 99);
    }

    /** 16: n 40: the fortieth night is among them */
    private static void runsOfForty() {
        LighthouseLiedTo x = with("shines (38 < night) * column ; fades night = 39 ; fears 0 ;");
        x.ship(0, 0);
        x.rock(1, 1);
        x.tell(9, 9);
        Due.due("16: afloat behind 39", x.run(39, 0), 1);
        Due.due("16: lost in the fortieth", x.run(40, 0), 0);
        Due.due("16: faded in it", x.run(40, 29), 8);
        Due.due("16: not ahead of it", x.run(39, 29), 9);
        Due.due("16: doubt of it", x.run(40, 2), 1);
        Due.due("16: where", x.run(40, 10), 1);
    }

    /** 17: "-5: no such SHIP; -7: what; STATE: it is." */
    private static void lostByOrder() {
        LighthouseLiedTo x = with(STILL);
        Due.due("17: no ship yet", x.lostBy(0, 0), -5);
        x.ship(0, 300);
        x.ship(0, 400);
        x.rock(3, 1);
        x.night();
        for (int s : new int[] {-1, 2, 6, LEAST, MOST}) {
            Due.due("17: ship " + s, x.lostBy(s, 0), -5);
            Due.due("17: ship " + s + " ahead of what", x.lostBy(s, 2), -5);
        }
        for (int what : new int[] {-1, 2, LEAST, MOST}) {
            Due.due("17: what " + what, x.lostBy(1, what), -7);
            Due.due("17: what " + what + " ahead of STATE", x.lostBy(0, what), -7);
        }
        Due.due("17: it is", x.lostBy(0, 0), -3);
        Due.due("17: it is, which cell", x.lostBy(0, 1), -3);
        Due.due("17: the other one in none", x.lostBy(1, 0), -1);
        Due.due("17: the other one nowhere", x.lostBy(1, 1), -1);
    }

    /** 17: "In which NIGHT from now on (1 .. 40)": the first, the fortieth, and no further one */
    private static void lostByNights() {
        LighthouseLiedTo x = with("shines (39 < night) * column ; fades 0 ; fears 0 ;");
        x.ship(0, 0);
        x.rock(1, 1);
        Due.due("17: the 41st is none", x.lostBy(0, 0), -1);
        Due.due("17: nor its cell", x.lostBy(0, 1), -1);
        x.night();
        for (int left = 40; left >= 1; left--) {
            Due.due("17: night", x.lostBy(0, 0), left);
            Due.due("17: cell", x.lostBy(0, 1), 1);
            x.night();
        }
        Due.due("17: it is", x.lostBy(0, 0), -3);
        x = with(STILL);
        x.ship(0, 0);
        x.rock(0, 1);
        Due.due("17: cell 0", x.lostBy(0, 1), 0);
        Due.due("17: the first night", x.lostBy(0, 0), 1);
    }

    /** 17, 18: a LOST one is LOST wherever it is put */
    private static void lostByOfTheLost() {
        LighthouseLiedTo x = with(STILL);
        x.ship(0, 300);
        x.rock(3, 1);
        x.night();
        x.put(0, 0, 9);
        Due.due("17: it is, elsewhere", x.lostBy(0, 0), -3);
        Due.due("18: stays where it was put", x.track(0, 40), 512);
        x.rock(3, 0);
        x.rock(9, 1);
        Due.due("15: no second loss", x.night(), 0);
    }

    /** 18: "n NIGHTS (0 .. 40). NO: none such." */
    private static void trackNumbers() {
        LighthouseLiedTo x = new LighthouseLiedTo();
        Due.due("18: no ship yet", x.track(0, 0), NO);
        x.ship(0, 3500);
        for (int s : new int[] {-1, 1, 6, LEAST, MOST}) {
            Due.due("18: ship " + s, x.track(s, 0), NO);
        }
        for (int n : new int[] {-1, 41, LEAST, MOST}) {
            Due.due("18: n " + n, x.track(0, n), NO);
        }
        Due.due("18: cell 35", x.track(0, 0), 1L << 35);
        Due.due("18: 40", x.track(0, 40), 1L << 35);
    }

    /** 18: "now, and behind 1, 2, .. n NIGHTS": n 0 is now alone; the last one counts */
    private static void tracks() {
        LighthouseLiedTo x = with("shines (38 < night) * column ; fades 0 ; fears 0 ;");
        x.ship(0, 600);
        Due.due("18: now", x.track(0, 0), 64);
        Due.due("18: behind 39", x.track(0, 39), 64);
        Due.due("18: behind 40", x.track(0, 40), 64 | 128);
        LighthouseLiedTo y = new LighthouseLiedTo();
        y.ship(0, 0);
        long cells = 0;
        int[] way = {0, 1, 2, 3, 4, 5, 11, 17, 23, 29, 35, 35};
        for (int n = 0; n < way.length; n++) {
            cells |= 1L << way[n];
            Due.due("18: behind " + n, y.track(0, n), cells);
        }
        y.rock(4, 1);
        Due.due("18: to where it is lost", y.track(0, 40), 31);
    }

    /** 19: "NO: what." */
    private static void seaNumbers() {
        LighthouseLiedTo x = new LighthouseLiedTo();
        for (int what : new int[] {-1, 4, LEAST, MOST}) {
            Due.due("19: what " + what, x.sea(what), NO);
        }
        Due.due("19: no rocks", x.sea(0), 0);
        Due.due("19: no wrong beliefs", x.sea(2), 0);
        Due.due("19: no missing ones", x.sea(3), 0);
        for (int c = 0; c < 36; c++) {
            x.rock(c, 1);
        }
        Due.due("19: all are rocks", x.sea(0), ALL);
        Due.due("19: all are missing", x.sea(3), ALL);
        Due.due("19: none is wrong", x.sea(2), 0);
    }

    /** 19: "the BRIGHTEST ones without a SHIP": of like ones all, at the bounds, too */
    private static void brightest() {
        int[] worths = {-9999, -100, -99, -1, 0, 1, 99, 9999};
        for (int worth : worths) {
            LighthouseLiedTo x = with("shines " + worth + " ; fades 0 ; fears 0 ;");
            Due.due("19: all of " + worth, x.sea(1), ALL);
        }
        LighthouseLiedTo x = with("shines 95 + column ; fades 0 ; fears 0 ;");
        Due.due("19: 99 and what is cut to it", x.sea(1), Due.bits(4, 5, 10, 11, 16, 17, 22, 23, 28, 29, 34, 35));
        x = with("shines 0 - column - row - 98 ; fades 0 ; fears 0 ;");
        Due.due("19: the least dark one", x.sea(1), 1);
        x = with("shines column = 5 and row = 5 ; fades 0 ; fears 0 ;");
        Due.due("19: the last one", x.sea(1), 1L << 35);
        x = with("shines belief ; fades 0 ; fears 0 ;");
        x.tell(9, 1);
        Due.due("19: one", x.sea(1), 512);
        x.tell(30, 1);
        Due.due("19: two", x.sea(1), 512 | 1L << 30);
    }

    /** 19: "those without a ROCK of BELIEF 50 or more (2), with one, of less (3)" */
    private static void believedWrongly() {
        LighthouseLiedTo x = new LighthouseLiedTo();
        int[] beliefs = {0, 49, 50, 51, 99};
        for (int i = 0; i < 5; i++) {
            x.tell(i, beliefs[i]);
            x.tell(31 + i, beliefs[i]);
            x.rock(31 + i, 1);
        }
        Due.due("19: without a rock", x.sea(2), Due.bits(2, 3, 4));
        Due.due("19: with one", x.sea(3), Due.bits(31, 32));
        x.tell(35, -50);
        Due.due("19: 49 of cell 35", x.sea(3), Due.bits(31, 32, 35));
        x.rock(35, 0);
        x.tell(35, 50);
        Due.due("19: cell 35 without one", x.sea(2), Due.bits(2, 3, 4, 35));
    }

    /** "What is asked changes nothing", and "They change nothing" of refusals: of promises 14, 16 to 19 */
    private static void changesNothing() {
        LighthouseLiedTo x = new LighthouseLiedTo();
        x.ship(0, 0);
        x.ship(20, 3599);
        x.rock(2, 1);
        x.rock(35, 1);
        x.tell(3, 70);
        x.sheet(0, 2, 3);
        String before = Seen.of(x);
        for (int n = -1; n <= 41; n += 7) {
            x.run(n, 0);
            x.run(n, 10);
            x.run(n, 22);
            x.track(1, n);
        }
        for (int what = -1; what < 6; what++) {
            x.lostBy(0, what);
            x.lostBy(2, what);
            x.sea(what);
            x.likes(0, what);
            x.likes(what, 3);
        }
        Due.holds("nothing is other", Seen.of(x).equals(before));
    }
}
