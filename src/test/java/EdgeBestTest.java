/** The bounds of promises 20 to 24: numbers, n 0 and 20 (trust: 10), like ones, none, a line in lowest terms. */
public final class EdgeBestTest {
    private static final int LEAST = Integer.MIN_VALUE, MOST = Integer.MAX_VALUE;
    private static final long NO = LighthouseLiedTo.NO, ALL = (1L << 36) - 1;
    private static final String STILL = "shines 0 ; fades 0 ; fears 0 ;";
    /** Ships stay but in the last night of 20, where each goes a column further. */
    private static final String LATE = "shines (18 < night) * (column - belief) ; fades 0 ; fears 0 ;";

    public static void main(String[] args) {
        lieNumbers();
        lieFirst();
        lieLastCell();
        lieNone();
        lieNights();
        lieByItsBounds();
        blowNumbers();
        blowFirst();
        blowLastCell();
        blowNone();
        blowNights();
        safeNumbers();
        safeNights();
        safeOfOthers();
        trustNumbers();
        trustLeast();
        trustNone();
        trustNights();
        truthNumbers();
        truthLines();
        changesNothing();
        Due.end();
    }

    private static LighthouseLiedTo with(String text) {
        LighthouseLiedTo x = new LighthouseLiedTo();
        Due.due(text, x.force(Due.textOf(x, text)), 0);
        return x;
    }

    private static LighthouseLiedTo late() {
        LighthouseLiedTo x = with(LATE);
        x.ship(0, 0);
        x.rock(1, 1);
        return x;
    }

    /** 20: "by v (-99 .. 99)", "n NIGHTS (0 .. 20)", "what 0", "1": "BAD." */
    private static void lieNumbers() {
        LighthouseLiedTo x = late();
        for (int v : new int[] {-100, 100, LEAST, MOST}) {
            Due.due("20: v " + v, x.lie(v, 0, 0), -2);
        }
        for (int n : new int[] {-1, 21, LEAST, MOST}) {
            Due.due("20: n " + n, x.lie(0, n, 0), -2);
        }
        for (int what : new int[] {-1, 2, LEAST, MOST}) {
            Due.due("20: what " + what, x.lie(0, 0, what), -2);
        }
        Due.due("20: v 99", x.lie(99, 20, 0), 1);
        Due.due("20: v 99, how many", x.lie(99, 20, 1), 0);
        Due.due("20: v -99", x.lie(-99, 20, 0), -1);
        Due.due("20: v -99, how many", x.lie(-99, 20, 1), 1);
    }

    /** 20: "of like ones the first" */
    private static void lieFirst() {
        LighthouseLiedTo x = with("shines belief ; fades 0 ; fears 0 ;");
        x.rock(14, 1);
        x.ship(0, 1400);
        Due.due("20: 8, 13, 15, 20 are like ones", x.lie(1, 1, 0), 8);
        Due.due("20: of them none is lost", x.lie(1, 1, 1), 0);
        x.rock(8, 1);
        Due.due("20: then 13", x.lie(1, 1, 0), 13);
        x.rock(13, 1);
        Due.due("20: then 15", x.lie(1, 1, 0), 15);
        x.rock(15, 1);
        Due.due("20: then 20", x.lie(1, 1, 0), 20);
        x.rock(20, 1);
        Due.due("20: then none", x.lie(1, 1, 0), -1);
        // Two of three are saved by one cell, one by another: the better comes later.
        x = with("shines belief ; fades 0 ; fears 0 ;");
        x.rock(0, 1);
        x.rock(21, 1);
        x.ship(0, 0);
        x.ship(0, 2100);
        x.ship(0, 2100);
        Due.due("20: the better, not the first", x.lie(1, 1, 0), 15);
        Due.due("20: one is left", x.lie(1, 1, 1), 1);
    }

    /** 20: cells 0 and 35 are among them */
    private static void lieLastCell() {
        for (int c = 0; c < 36; c += 35) {
            LighthouseLiedTo x = with("shines belief ; fades 0 ; fears 0 ;");
            int beside = c == 0 ? 1 : 34;
            for (int rock = 0; rock < 36; rock++) {
                x.rock(rock, rock == c ? 0 : 1);
            }
            x.ship(0, 100 * beside);
            Due.due("20: cell " + c, x.lie(9, 1, 0), c);
            Due.due("20: cell " + c + ", how many", x.lie(9, 1, 1), 0);
        }
    }

    /** 20: "if fewer than so", "-1: none", "how many (1; as so)": also where a lie makes more, or none is lost */
    private static void lieNone() {
        LighthouseLiedTo x = new LighthouseLiedTo();
        Due.due("20: no ship", x.lie(50, 20, 0), -1);
        Due.due("20: no ship, how many", x.lie(50, 20, 1), 0);
        x.ship(0, 0);
        Due.due("20: no rock", x.lie(50, 20, 0), -1);
        Due.due("20: no rock, how many", x.lie(50, 20, 1), 0);
        x = with("shines belief ; fades 0 ; fears 0 ;");
        x.ship(0, 1400);
        x.ship(10, 0);
        x.rock(0, 1);
        x.rock(1, 1);
        x.rock(6, 1);
        x.rock(8, 1);
        Due.due("20: one is lost", Integer.bitCount(x.run(1, 0)), 1);
        // Told of 8 a second one were lost: that is otherwise than so, but not fewer.
        Due.due("20: more are not fewer", x.lie(9, 1, 0), -1);
        Due.due("20: as so", x.lie(9, 1, 1), 1);
        x.rock(0, 0);
        Due.due("20: as so, none", x.lie(9, 1, 0), -1);
        Due.due("20: as so, none, how many", x.lie(9, 1, 1), 0);
        Due.due("20: told by 0", x.lie(0, 20, 0), -1);
    }

    /** 20: n 0: none is LOST; n 20: the twentieth night is among them */
    private static void lieNights() {
        LighthouseLiedTo x = late();
        Due.due("20: n 0", x.lie(99, 0, 0), -1);
        Due.due("20: n 0, how many", x.lie(99, 0, 1), 0);
        Due.due("20: n 19", x.lie(0, 19, 1), 0);
        Due.due("20: n 20", x.lie(0, 20, 1), 1);
        Due.due("20: n 20, which", x.lie(9, 20, 0), 1);
    }

    /** 20: TOLD by v as ever: cut by DOUBT, and not truly */
    private static void lieByItsBounds() {
        LighthouseLiedTo x = late();
        x.doubts(99);
        Due.due("20: 9 by 10 is nothing", x.lie(9, 20, 0), -1);
        Due.due("20: 10 by 10 is enough", x.lie(10, 20, 0), 1);
        Due.due("20: it is not told", x.believes(1), 0);
        Due.due("20: doubt is as it was", x.count(3), 99);
    }

    /** 21: n as in lie(), "what 0", "1": "BAD." */
    private static void blowNumbers() {
        LighthouseLiedTo x = late();
        for (int n : new int[] {-1, 21, LEAST, MOST}) {
            Due.due("21: n " + n, x.blow(n, 0), -2);
        }
        for (int what : new int[] {-1, 2, LEAST, MOST}) {
            Due.due("21: what " + what, x.blow(0, what), -2);
        }
        Due.due("21: n 20", x.blow(20, 0), 1);
        Due.due("21: n 20, how many", x.blow(20, 1), 0);
        Due.due("21: it stands", x.sea(0), 2);
    }

    /** 21: "of like ones the first" */
    private static void blowFirst() {
        LighthouseLiedTo x = with(STILL);
        int[] cells = {30, 4, 17, 4, 17, 22};
        for (int s = 0; s < 6; s++) {
            x.ship(0, 100 * cells[s]);
            x.rock(cells[s], 1);
        }
        Due.due("21: the first of 4 and 17", x.blow(1, 0), 4);
        Due.due("21: two fewer", x.blow(1, 1), 4);
        x.rock(4, 0);
        Due.due("21: then 17", x.blow(1, 0), 17);
        Due.due("21: two of four", x.blow(1, 1), 2);
        x.rock(17, 0);
        Due.due("21: the first of 22 and 30", x.blow(1, 0), 22);
        Due.due("21: one of two", x.blow(1, 1), 1);
    }

    /** 21: cells 0 and 35 are among them */
    private static void blowLastCell() {
        for (int c = 0; c < 36; c += 35) {
            LighthouseLiedTo x = with(STILL);
            x.ship(0, 100 * c);
            for (int rock = 0; rock < 36; rock++) {
                x.rock(rock, 1);
            }
            Due.due("21: cell " + c, x.blow(20, 0), c);
            Due.due("21: cell " + c + ", how many", x.blow(20, 1), 0);
        }
    }

    /** 21: "if fewer than so", "-1: none", "how many (1; as so)": also where more are LOST without a rock */
    private static void blowNone() {
        LighthouseLiedTo x = new LighthouseLiedTo();
        Due.due("21: no rock", x.blow(20, 0), -1);
        Due.due("21: no rock, how many", x.blow(20, 1), 0);
        x.rock(3, 1);
        Due.due("21: no ship", x.blow(20, 0), -1);
        Due.due("21: no ship, how many", x.blow(20, 1), 0);
        // Without 1 the first is not lost there, but both come to 2: as many. Without 2 it is as so.
        x = with("shines column ; fades 0 ; fears 0 ;");
        x.ship(0, 0);
        x.rock(1, 1);
        x.rock(2, 1);
        Due.due("21: lost a night later", x.blow(2, 0), -1);
        Due.due("21: as so", x.blow(2, 1), 1);
        Due.due("21: not in one night", x.blow(1, 0), 1);
        // The doubt that the first's loss makes keeps two others off a rock that is believed in.
        x = with("shines column * (doubt < 1) ; fades 0 ; fears 0 ;");
        x.ship(0, 0);
        x.ship(0, 200);
        x.ship(0, 200);
        x.rock(1, 1);
        x.rock(3, 1);
        x.tell(3, 60);
        Due.due("21: as so the first alone", x.run(1, 0), 6);
        Due.due("21: the two others for it are not fewer", x.blow(1, 0), -1);
        Due.due("21: as so, how many", x.blow(1, 1), 1);
        x.rock(1, 0);
        Due.due("21: they would be lost", x.run(1, 0), 1);
    }

    /** 21: n 0: none is LOST; the twentieth night is among them */
    private static void blowNights() {
        LighthouseLiedTo x = late();
        Due.due("21: n 0", x.blow(0, 0), -1);
        Due.due("21: n 0, how many", x.blow(0, 1), 0);
        Due.due("21: n 19", x.blow(19, 0), -1);
        Due.due("21: n 20", x.blow(20, 0), 1);
    }

    /** 22: "n NIGHTS (0 .. 20). NO: none such, it is LOST." */
    private static void safeNumbers() {
        LighthouseLiedTo x = with(STILL);
        Due.due("22: no ship yet", x.safe(0, 0), NO);
        x.ship(0, 300);
        x.ship(0, 400);
        for (int s : new int[] {-1, 2, 6, LEAST, MOST}) {
            Due.due("22: ship " + s, x.safe(s, 0), NO);
        }
        for (int n : new int[] {-1, 21, LEAST, MOST}) {
            Due.due("22: n " + n, x.safe(0, n), NO);
        }
        x.rock(3, 1);
        Due.due("22: n 0, on a rock", x.safe(0, 0), ALL);
        Due.due("22: n 20", x.safe(0, 20), ALL & ~8L);
        x.night();
        Due.due("22: it is lost", x.safe(0, 0), NO);
        Due.due("22: it is lost, n 20", x.safe(0, 20), NO);
        Due.due("22: the other is not", x.safe(1, 20), ALL & ~8L);
        x.put(0, 0, 9);
        Due.due("22: lost wherever it is", x.safe(0, 5), NO);
    }

    /** 22: the twentieth night is among them; cells 0 and 35, all and none */
    private static void safeNights() {
        LighthouseLiedTo x = late();
        x.rock(1, 0);
        for (int row = 0; row < 6; row++) {
            x.rock(6 * row + 5, 1);
        }
        long last = Due.bits(5, 11, 17, 23, 29, 35);
        Due.due("22: n 0", x.safe(0, 0), ALL);
        Due.due("22: n 1", x.safe(0, 1), ALL & ~last);
        Due.due("22: n 19", x.safe(0, 19), ALL & ~last);
        Due.due("22: n 20", x.safe(0, 20), ALL & ~last & ~(last >> 1));
        for (int c = 0; c < 36; c++) {
            x.rock(c, 1);
        }
        Due.due("22: none", x.safe(0, 1), 0);
        x.ship(50, 0);
        Due.due("22: a ghost's", x.safe(1, 20), ALL);
        x.ship(20, 0);
        Due.due("22: a barge's without draught", x.safe(2, 20), ALL);
    }

    /** 22: the other SHIPS are where they are: what they teach ahead of it counts */
    private static void safeOfOthers() {
        LighthouseLiedTo x = with("shines 50 * (belief < 99) ; fades 0 ; fears 0 ;");
        x.ship(0, 0);
        x.ship(0, 0);
        x.rock(0, 1);
        Due.due("22: the first stays on the rock", x.safe(0, 1), ALL & ~1L);
        Due.due("22: the second is taught", x.safe(1, 1), ALL);
        Due.due("22: where it was", x.told(1, 0), 0);
    }

    /** 23: "-5: no such CELL; -7: v, n." (0 .. 10) */
    private static void trustNumbers() {
        LighthouseLiedTo x = late();
        for (int c : new int[] {-1, 36, LEAST, MOST}) {
            Due.due("23: cell " + c, x.trust(c, 0, 0), -5);
            Due.due("23: cell " + c + " ahead of v", x.trust(c, 100, 0), -5);
            Due.due("23: cell " + c + " ahead of n", x.trust(c, 0, 11), -5);
        }
        for (int v : new int[] {-100, 100, LEAST, MOST}) {
            Due.due("23: v " + v, x.trust(0, v, 0), -7);
        }
        for (int n : new int[] {-1, 11, LEAST, MOST}) {
            Due.due("23: n " + n, x.trust(0, 0, n), -7);
        }
        Due.due("23: cell 0, v -99, n 0", x.trust(0, -99, 0), 0);
        Due.due("23: cell 35, v 99, n 10", x.trust(35, 99, 10), 0);
    }

    /** 23: "The least DOUBT of 0, 10, .. 90": each of them, and that alone, by which it is so */
    private static void trustLeast() {
        for (int tens = 0; tens < 10; tens++) {
            // A ship leaves the rock at 0 just by this doubt, or one that is above it.
            LighthouseLiedTo x = with("shines column * (" + (10 * tens - 1) + " < doubt) ; fades 0 ; fears 0 ;");
            x.ship(0, 0);
            x.rock(0, 1);
            x.doubts(50);
            Due.due("23: the least is " + 10 * tens, x.trust(35, 0, 10), 10 * tens);
            Due.due("23: doubt is as it was", x.count(3), 50);
        }
        LighthouseLiedTo x = with("shines column * (doubt = 91 or doubt = 99) ; fades 0 ; fears 0 ;");
        x.ship(0, 0);
        x.rock(0, 1);
        x.doubts(91);
        Due.due("23: 91, 99 are none of them", x.trust(35, 0, 1), -1);
        Due.due("23: though it is so now", x.run(1, 0), 1);
        x = with("shines column * (doubt < 1) ; fades 0 ; fears 0 ;");
        x.ship(0, 0);
        x.rock(0, 1);
        x.doubts(95);
        Due.due("23: 0 is one of them", x.trust(35, 0, 1), 0);
    }

    /** 23: "the light TOLD of a CELL by v then": by that DOUBT; "none would be LOST"; "-1: none" */
    private static void trustNone() {
        LighthouseLiedTo x = with("shines column - belief ; fades 0 ; fears 0 ;");
        x.ship(0, 0);
        x.rock(1, 1);
        x.doubts(99);
        Due.due("23: told without doubt", x.trust(1, 1, 1), 0);
        Due.due("23: of another cell", x.trust(2, 99, 1), -1);
        Due.due("23: by 0", x.trust(1, 0, 1), -1);
        Due.due("23: by less", x.trust(1, -99, 1), -1);
        x.ship(0, 3500);
        x.rock(35, 1);
        Due.due("23: one lost of two is not none", x.trust(1, 99, 1), -1);
        x.rock(35, 0);
        Due.due("23: none of two", x.trust(1, 99, 1), 0);
        Due.due("23: nothing was told", x.believes(1), 0);
    }

    /** 23: n 0: none is LOST by doubt 0; the tenth night is among them */
    private static void trustNights() {
        LighthouseLiedTo x = with("shines (8 < night) * column ; fades 0 ; fears 0 ;");
        x.ship(0, 0);
        x.rock(1, 1);
        Due.due("23: n 0", x.trust(0, 0, 0), 0);
        Due.due("23: n 9", x.trust(0, 0, 9), 0);
        Due.due("23: n 10", x.trust(0, 0, 10), -1);
    }

    /** 24: "NO: part, that is 0." */
    private static void truthNumbers() {
        LighthouseLiedTo x = new LighthouseLiedTo();
        for (int part : new int[] {-1, 0, 1, 2, LEAST, MOST}) {
            Due.due("24: all is 0, part " + part, x.truth(part), NO);
        }
        for (int c = 0; c < 36; c++) {
            x.rock(c, 1);
        }
        Due.due("24: all is 0 with rocks, above", x.truth(0), NO);
        Due.due("24: all is 0 with rocks, below", x.truth(1), NO);
        x.tell(35, 1);
        for (int part : new int[] {-1, 2, LEAST, MOST}) {
            Due.due("24: part " + part, x.truth(part), NO);
        }
    }

    private static void truth(LighthouseLiedTo x, int above, int below) {
        Due.due("24: above", x.truth(0), above);
        Due.due("24: below", x.truth(1), below);
    }

    /** 24: "part 0 above, 1 below the line, in lowest terms": 0 above, all, and between */
    private static void truthLines() {
        LighthouseLiedTo x = new LighthouseLiedTo();
        x.tell(0, 99);
        truth(x, 0, 1);
        x.rock(35, 1);
        truth(x, 0, 1);
        x.tell(35, 1);
        truth(x, 1, 100);
        x.tell(35, 32);
        truth(x, 1, 4);
        x.tell(35, 33);
        truth(x, 2, 5);
        x.rock(0, 1);
        truth(x, 1, 1);
        x.rock(35, 0);
        truth(x, 3, 5);
        for (int c = 0; c < 36; c++) {
            x.tell(c, 99);
            x.rock(c, c < 35 ? 1 : 0);
        }
        truth(x, 35, 36);
        x.tell(35, -1);
        // 3465 of 3563, which are 5 * 7 * 9 * 11 and 7 * 509.
        truth(x, 495, 509);
        x.rock(0, 0);
        x.tell(0, -98);
        // 3366 of 3465.
        truth(x, 34, 35);
    }

    /** "What is asked changes nothing", and "They change nothing" of refusals */
    private static void changesNothing() {
        LighthouseLiedTo x = new LighthouseLiedTo();
        x.ship(0, 0);
        x.ship(20, 3599);
        x.rock(2, 1);
        x.rock(35, 1);
        x.tell(3, 70);
        x.doubts(12);
        String before = Seen.of(x);
        for (int n = -1; n <= 21; n += 11) {
            for (int what = -1; what < 3; what++) {
                x.lie(60, n, what);
                x.lie(-60, n, what);
                x.blow(n, what);
                x.truth(what);
            }
            x.safe(0, n);
            x.safe(1, n);
            x.trust(2, 60, n);
            x.trust(3, -60, n / 2);
        }
        Due.holds("nothing is other", Seen.of(x).equals(before));
    }
}
