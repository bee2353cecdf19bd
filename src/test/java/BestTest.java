/** Promises 20 to 24: what is best. */
public final class BestTest {
    public static void main(String[] args) {
        lies();
        blows();
        safes();
        trusts();
        truths();
        Due.end();
    }

    /** 20 */
    private static void lies() {
        LighthouseLiedTo x = new LighthouseLiedTo();
        x.ship(0, 0);
        x.rock(2, 1);
        Due.due("which", x.lie(99, 2, 0), 1);
        Due.due("how many", x.lie(99, 2, 1), 0);
        Due.due("too little", x.lie(0, 2, 0), -1);
        Due.due("too little, how many", x.lie(0, 2, 1), 1);
        Due.due("no night", x.lie(99, 0, 0), -1);
        Due.due("no night, how many", x.lie(99, 0, 1), 0);
        Due.due("less, where there is belief", x.lie(-99, 2, 0), -1);
        x.tell(6, 50);
        Due.due("a lie to lure it", x.lie(-99, 2, 0), -1);
        x.tell(6, -40);
        x.tell(1, 9);
        x.tell(0, 50);
        Due.due("a lie that lures it", x.lie(-2, 2, 0), 6);
        Due.due("of like ones the first", x.lie(99, 3, 0), 1);
        Due.due("cell 0 may be the one", x.lie(-50, 2, 0), 0);
        Due.due("v 100", x.lie(100, 0, 0), -2);
        Due.due("v -100", x.lie(-100, 0, 0), -2);
        Due.due("n -1", x.lie(0, -1, 0), -2);
        Due.due("n 21", x.lie(0, 21, 0), -2);
        Due.due("n 20", x.lie(0, 20, 1), 1);
        Due.due("what 2", x.lie(0, 0, 2), -2);
        Due.due("what -1", x.lie(0, 0, -1), -2);
        Due.due("it is not told", x.believes(6), 10);
        lostBefore();
    }

    private static void lostBefore() {
        LighthouseLiedTo x = new LighthouseLiedTo();
        x.ship(0, 0);
        x.rock(1, 1);
        x.night();
        Due.due("lost before is not lost in them", x.lie(99, 5, 1), 0);
        Due.due("nor by a rock", x.blow(5, 1), 0);
        Due.due("nor trusted", x.trust(0, 0, 5), 0);
        Due.due("nor by tales", x.drawn(0, 0, 0), 0);
    }

    /** 21 */
    private static void blows() {
        LighthouseLiedTo x = new LighthouseLiedTo();
        Due.due("no rock", x.blow(5, 0), -1);
        x.ship(0, 0);
        x.ship(0, 1800);
        x.ship(0, 1800);
        x.rock(1, 1);
        x.rock(19, 1);
        x.rock(35, 1);
        Due.due("as it is", x.run(1, 0), 4);
        Due.due("which, of like ones the first", x.blow(1, 0), 1);
        Due.due("how many", x.blow(1, 1), 1);
        x.rock(24, 1);
        Due.due("the best, which is not the first", x.blow(1, 0), 19);
        Due.due("how many then", x.blow(1, 1), 1);
        Due.due("no night", x.blow(0, 0), -1);
        Due.due("no night, how many", x.blow(0, 1), 0);
        Due.due("n -1", x.blow(-1, 0), -2);
        Due.due("n 21", x.blow(21, 0), -2);
        Due.due("n 20", x.blow(20, 0) >= -1 ? 1 : 0, 1);
        Due.due("what 2", x.blow(0, 2), -2);
        Due.due("what -1", x.blow(0, -1), -2);
        Due.due("rocks stand", x.count(4), 4);
        x = new LighthouseLiedTo();
        x.force(Due.textOf(x, "shines 0 ; fades 0 ; fears 0 ;"));
        x.ship(0, 0);
        x.rock(35, 1);
        x.rock(0, 1);
        Due.due("cell 0 may be the one", x.blow(1, 0), 0);
        Due.due("none is lost then", x.blow(1, 1), 0);
    }

    /** 22 */
    private static void safes() {
        LighthouseLiedTo x = new LighthouseLiedTo();
        x.ship(0, 0);
        x.rock(7, 1);
        x.rock(2, 1);
        long all = (1L << 36) - 1;
        Due.due("no night", x.safe(0, 0), all);
        // 2 comes from 1 and goes on from 2 itself; 7 is come to from 6 (a column further first), not from 1.
        Due.due("one night", x.safe(0, 1), all & ~Due.bits(1, 6));
        Due.due("two nights", x.safe(0, 2), all & ~Due.bits(0, 1, 6));
        Due.due("n -1", x.safe(0, -1), LighthouseLiedTo.NO);
        Due.due("n 21", x.safe(0, 21), LighthouseLiedTo.NO);
        Due.due("no ship", x.safe(1, 0), LighthouseLiedTo.NO);
        Due.due("ship -1", x.safe(-1, 0), LighthouseLiedTo.NO);
        Due.due("it is where it was", x.told(0, 0), 0);
        x.put(0, 0, 1);
        x.night();
        Due.due("lost", x.safe(0, 0), LighthouseLiedTo.NO);
    }

    /** 23 */
    private static void trusts() {
        LighthouseLiedTo x = new LighthouseLiedTo();
        x.ship(0, 0);
        x.rock(2, 1);
        x.doubts(95);
        Due.due("without doubt", x.trust(1, 99, 2), 0);
        Due.due("never", x.trust(20, 99, 2), -1);
        Due.due("no night", x.trust(20, 99, 0), 0);
        x.tell(6, 10);
        Due.due("told too little by any doubt", x.trust(1, 1, 3), -1);
        Due.due("cell -1", x.trust(-1, 100, 0), -5);
        Due.due("cell 36", x.trust(36, 0, 0), -5);
        Due.due("v 100", x.trust(0, 100, 0), -7);
        Due.due("v -100", x.trust(0, -100, 0), -7);
        Due.due("n -1", x.trust(0, 0, -1), -7);
        Due.due("n 11", x.trust(0, 0, 11), -7);
        Due.due("n 10", x.trust(0, 0, 10) >= -1 ? 1 : 0, 1);
        Due.due("doubt is as it was", x.count(3), 95);
        least();
    }

    private static void least() {
        // The ship leaves the rock in cell 1 just if cell 2 is believed in by 30 at most.
        LighthouseLiedTo x = new LighthouseLiedTo();
        x.force(Due.textOf(x, "shines (belief < 31) * column ; fades 0 ; fears 0 ;"));
        x.ship(0, 100);
        x.rock(1, 1);
        Due.due("99 by 4 is 24, by 3 it is 33", x.trust(2, 99, 1), 30);
        Due.due("93 by 3 is 31", x.trust(2, 93, 1), 30);
        Due.due("92 by 3 is 30", x.trust(2, 92, 1), 20);
        x.tell(2, 21);
        Due.due("99 by 10 is 9", x.trust(2, 99, 1), 90);
        Due.due("belief of 2", x.tell(2, 1), 22);
        Due.due("9 is too much", x.trust(2, 99, 1), -1);
        x.tell(2, -22);
        Due.due("nothing to be less", x.trust(2, -99, 1), 0);
        x.rock(2, 1);
        Due.due("lost by any doubt", x.trust(2, -99, 1), -1);
    }

    /** 24 */
    private static void truths() {
        LighthouseLiedTo x = new LighthouseLiedTo();
        Due.due("that is 0", x.truth(0), LighthouseLiedTo.NO);
        x.rock(3, 1);
        x.rock(4, 1);
        Due.due("that is 0 yet", x.truth(1), LighthouseLiedTo.NO);
        x.tell(0, 30);
        Due.due("none of it, above", x.truth(0), 0);
        Due.due("none of it, below", x.truth(1), 1);
        x.tell(3, 8);
        x.tell(4, 12);
        Due.due("above", x.truth(0), 2);
        Due.due("below", x.truth(1), 5);
        x.tell(0, -30);
        Due.due("all, above", x.truth(0), 1);
        Due.due("all, below", x.truth(1), 1);
        x.rock(0, 1);
        x.tell(3, -8);
        x.tell(4, -12);
        x.tell(1, 2);
        x.tell(0, 1);
        Due.due("of cell 0, above", x.truth(0), 1);
        Due.due("of cell 0, below", x.truth(1), 3);
        x.tell(1, -2);
        Due.due("of 1, above", x.truth(0), 1);
        Due.due("of 1, below", x.truth(1), 1);
        Due.due("part -1", x.truth(-1), LighthouseLiedTo.NO);
        Due.due("part 2", x.truth(2), LighthouseLiedTo.NO);
    }
}
