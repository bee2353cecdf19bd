/** Promises 14 to 19: likes, nights, what comes behind them. */
public final class NightsTest {
    public static void main(String[] args) {
        likes();
        likesNegative();
        nights();
        learns();
        doubtAndOrder();
        rafts();
        lastNight();
        runs();
        lostBys();
        tracks();
        seas();
        Due.end();
    }

    /** 14 */
    private static void likes() {
        LighthouseLiedTo x = new LighthouseLiedTo();
        x.force(Due.textOf(x, "shines 30 + column + row + draught ; fades 0 ; fears 7 + column ;"));
        for (int k = 0; k < 6; k++) {
            x.ship(10 * k + 8, 3);
        }
        // Cell 14: column 2, row 2; more 8 modulo 6 is row 2.
        int[] at14 = {37, 37 - 9, 57, 9 - 37, 5, 9};
        int[] at20 = {38, 38 - 9, 38, 9 - 38, 3, 9};
        for (int s = 0; s < 6; s++) {
            Due.due("likes of kind " + s, x.likes(s, 14), at14[s]);
            Due.due("likes elsewhere of kind " + s, x.likes(s, 20), at20[s]);
        }
        Due.due("a ghost's own", x.likes(5, 32), 99);
        x.force(Due.textOf(x, "shines 9999 ; fades 0 ; fears 0 ;"));
        Due.due("a tenth, of 20 more, too", x.likes(4, 14), 11);
        x = new LighthouseLiedTo();
        x.ship(59, 0);
        Due.due("36 modulo 36", x.likes(0, 0), 99);
        Due.due("not 35", x.likes(0, 35), 0);
        Due.due("ship -1", x.likes(-1, 0), -100000);
        Due.due("ship 1", x.likes(1, 0), -100000);
        Due.due("cell -1", x.likes(0, -1), -100000);
        Due.due("cell 36", x.likes(0, 36), -100000);
    }

    private static void likesNegative() {
        LighthouseLiedTo x = new LighthouseLiedTo();
        x.force(Due.textOf(x, "shines -9999 ; fades 0 ; fears 9999 ;"));
        for (int k = 0; k < 6; k++) {
            x.ship(10 * k + 1, 0);
        }
        int[] at0 = {-99, -198, -99, 198, -9, 99};
        for (int s = 0; s < 6; s++) {
            Due.due("likes below 0 of kind " + s, x.likes(s, 0), at0[s]);
        }
        Due.due("a barge's row", x.likes(2, 6), -79);
        Due.due("a raft's row, cut", x.likes(4, 6), -7);
    }

    /** 15 */
    private static void nights() {
        LighthouseLiedTo x = new LighthouseLiedTo();
        x.ship(0, 0);
        x.tell(35, 50);
        x.tell(1, 2);
        Due.due("a night", x.night(), 0);
        Due.due("is elsewhere", x.told(0, 0), 6);
        Due.due("night", x.count(2), 1);
        Due.due("fades", x.believes(35), 47);
        Due.due("fades to 0", x.believes(1), 0);
        x.rock(7, 1);
        x.rock(12, 1);
        Due.due("lost", x.night(), 1);
        Due.due("lost where", x.told(0, 0), 7);
        Due.due("lost once", x.night(), 0);
        Due.due("stays there", x.told(0, 0), 7);
        Due.due("a sunk ship goes nowhere", x.count(1), 0);
    }

    /** 15, of what losses teach */
    private static void learns() {
        int[] teaches = {99, 49, 99, 0, 99, 99};
        for (int k = 0; k < 5; k++) {
            LighthouseLiedTo x = new LighthouseLiedTo();
            x.force(Due.textOf(x, "shines 0;fades 0;fears 0;"));
            x.ship(10 * k, 1);
            x.put(0, 0, 3);
            x.rock(3, 1);
            x.tell(3, 48);
            Due.due("lost of kind " + k, x.night(), 1);
            Due.due("taught by kind " + k, x.believes(3), Math.max(48, teaches[k]));
            Due.due("doubt is more by kind " + k, x.count(3), 1);
            x.tell(3, -99);
            x.tell(3, -99);
            x.doubts(0);
            x.ship(10 * k, 301);
            Due.due("another of kind " + k, x.run(5, 23), teaches[k]);
        }
        LighthouseLiedTo x = new LighthouseLiedTo();
        x.force(Due.textOf(x, "shines 0;fades 0;fears 0;"));
        x.rock(0, 1);
        x.tell(0, 50);
        x.ship(10, 0);
        x.ship(50, 0);
        Due.due("at 50", x.night(), 1);
        Due.due("no doubt more", x.count(3), 0);
        Due.due("not less", x.believes(0), 50);
        Due.due("a ghost is afloat on a rock", x.told(1, 4), 0);
        x.doubts(99);
        x.tell(0, -99);
        x.tell(0, -99);
        x.ship(0, 0);
        Due.due("lost at doubt 99", x.night(), 4);
        Due.due("99 at most", x.count(3), 99);
    }

    /** 15, of "all told as it is then" */
    private static void doubtAndOrder() {
        LighthouseLiedTo x = new LighthouseLiedTo();
        // Ships of like place: the first is lost and teaches, so that the second goes elsewhere.
        x.ship(0, 0);
        x.ship(0, 0);
        x.rock(1, 1);
        Due.due("the first is lost", x.night(), 1);
        Due.due("the second went elsewhere", x.told(1, 0), 6);
        Due.due("learnt, and faded in the same night", x.believes(1), 96);
        x = new LighthouseLiedTo();
        // The doubt of a loss counts for fading in its night; night does not yet.
        x.force(Due.textOf(x, "shines 0;fades doubt*10 + night;fears 0;"));
        x.ship(0, 0);
        x.rock(0, 1);
        x.tell(35, 50);
        x.night();
        Due.due("fades by doubt then", x.believes(35), 40);
        x.night();
        Due.due("fades by night then", x.believes(35), 29);
        x = new LighthouseLiedTo();
        // The second sees the doubt that the first's loss made.
        x.force(Due.textOf(x, "shines (doubt = 1) * column;fades 0;fears 0;"));
        x.ship(0, 0);
        x.ship(0, 0);
        x.rock(0, 1);
        Due.due("the first stays and is lost", x.night(), 1);
        Due.due("the second goes", x.told(1, 0), 1);
    }

    private static void rafts() {
        LighthouseLiedTo x = new LighthouseLiedTo();
        x.force(Due.textOf(x, "shines 0;fades 0;fears 0;"));
        x.night();
        x.ship(40, 1);
        x.rock(0, 1);
        for (int i = 1; i < 5; i++) {
            Due.due("a raft is afloat in night " + i, x.night(), 0);
        }
        Due.due("a raft is lost in night 5", x.night(), 1);
    }

    /** 15: past the 512th call the document promises nothing, but the bound is there. */
    private static void lastNight() {
        LighthouseLiedTo x = new LighthouseLiedTo();
        for (int i = 0; i < 999; i++) {
            x.night();
        }
        Due.due("night 999", x.count(2), 999);
        Due.due("no night more", x.night(), -3);
        Due.due("night 999 still", x.count(2), 999);
        x.force(Due.textOf(x, "shines 0; fades night - 1000 ; fears 0 ;"));
        x.tell(0, 50);
        Due.due("in thought it passes 999", x.run(3, 20), 49);
    }

    /** 16 */
    private static void runs() {
        LighthouseLiedTo x = new LighthouseLiedTo();
        x.ship(0, 0);
        x.ship(50, 3500);
        x.rock(2, 1);
        x.tell(0, 40);
        x.tell(35, 10);
        Due.due("run 0, afloat", x.run(0, 0), 3);
        Due.due("run 0, belief", x.run(0, 1), 50);
        Due.due("run 2, afloat", x.run(2, 0), 2);
        Due.due("run 2, belief", x.run(2, 1), 34 + 4 + 96);
        Due.due("run 2, doubt", x.run(2, 2), 1);
        Due.due("run 1, ship 0", x.run(1, 10), 1);
        Due.due("run 2, ship 0", x.run(2, 10), 2);
        Due.due("run 40, ship 0", x.run(40, 10), 2);
        Due.due("run 2, ship 1", x.run(2, 11), 35);
        Due.due("run 2, ship 2", x.run(2, 12), -2);
        Due.due("run 2, cell 0", x.run(2, 20), 34);
        Due.due("run 2, cell 2", x.run(2, 22), 96);
        Due.due("run 2, cell 35", x.run(2, 55), 4);
        Due.due("run 2, 56", x.run(2, 56), -2);
        Due.due("run 2, 3", x.run(2, 3), -2);
        Due.due("run 2, 9", x.run(2, 9), -2);
        Due.due("run 2, 16", x.run(2, 16), -2);
        Due.due("run 2, 19", x.run(2, 19), -2);
        Due.due("run 2, -1", x.run(2, -1), -2);
        Due.due("run -1", x.run(-1, 0), -2);
        Due.due("run 41", x.run(41, 0), -2);
        Due.due("nothing is other, night", x.count(2), 0);
        Due.due("nothing is other, ship", x.told(0, 0), 0);
        Due.due("nothing is other, belief", x.believes(2), 0);
    }

    /** 17 */
    private static void lostBys() {
        LighthouseLiedTo x = new LighthouseLiedTo();
        x.ship(0, 0);
        x.ship(50, 3500);
        x.rock(3, 1);
        Due.due("in night 3", x.lostBy(0, 0), 3);
        Due.due("in cell 3", x.lostBy(0, 1), 3);
        Due.due("in none", x.lostBy(1, 0), -1);
        Due.due("in no cell", x.lostBy(1, 1), -1);
        Due.due("what 2", x.lostBy(0, 2), -7);
        Due.due("what -1", x.lostBy(0, -1), -7);
        Due.due("no ship", x.lostBy(2, 2), -5);
        Due.due("ship -1", x.lostBy(-1, 0), -5);
        x.night();
        Due.due("from now on", x.lostBy(0, 0), 2);
        x.night();
        x.night();
        Due.due("it is", x.lostBy(0, 0), -3);
        Due.due("what ahead of it is", x.lostBy(0, 2), -7);
        within40();
    }

    private static void within40() {
        LighthouseLiedTo x = new LighthouseLiedTo();
        x.force(Due.textOf(x, "shines (39 < night) * column ; fades 0 ; fears 0 ;"));
        x.ship(0, 0);
        x.rock(1, 1);
        Due.due("in night 41, which is none", x.lostBy(0, 0), -1);
        x.night();
        Due.due("in night 40", x.lostBy(0, 0), 40);
        Due.due("in its cell", x.lostBy(0, 1), 1);
    }

    /** 18 */
    private static void tracks() {
        LighthouseLiedTo x = new LighthouseLiedTo();
        x.ship(0, 0);
        Due.due("track 0", x.track(0, 0), 1);
        Due.due("track 3", x.track(0, 3), 15);
        Due.due("track 40", x.track(0, 40), Due.bits(0, 1, 2, 3, 4, 5, 11, 17, 23, 29, 35));
        Due.due("track 41", x.track(0, 41), LighthouseLiedTo.NO);
        Due.due("track -1", x.track(0, -1), LighthouseLiedTo.NO);
        Due.due("track of 1", x.track(1, 0), LighthouseLiedTo.NO);
        Due.due("track of -1", x.track(-1, 0), LighthouseLiedTo.NO);
        x.rock(2, 1);
        Due.due("track to a rock", x.track(0, 9), 7);
        x.night();
        x.night();
        Due.due("track of a lost one", x.track(0, 9), 4);
    }

    /** 19 */
    private static void seas() {
        LighthouseLiedTo x = new LighthouseLiedTo();
        x.rock(0, 1);
        x.rock(35, 1);
        x.rock(6, 1);
        x.tell(35, 50);
        x.tell(6, 49);
        x.tell(1, 50);
        x.tell(2, 49);
        Due.due("rocks", x.sea(0), Due.bits(0, 6, 35));
        Due.due("brightest", x.sea(1), Due.bits(29, 34));
        Due.due("none where believed", x.sea(2), Due.bits(1));
        Due.due("one where not believed", x.sea(3), Due.bits(0, 6));
        x.tell(0, 50);
        Due.due("cell 0, believed", x.sea(3), Due.bits(6));
        Due.due("sea -1", x.sea(-1), LighthouseLiedTo.NO);
        Due.due("sea 4", x.sea(4), LighthouseLiedTo.NO);
        x.force(Due.textOf(x, "shines -9999 ; fades 0 ; fears 0 ;"));
        Due.due("all as bright, at the bound", x.sea(1), (1L << 36) - 1);
    }
}
