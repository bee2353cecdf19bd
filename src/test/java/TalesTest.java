/** Promises 32 to 35: tales by lots, images. */
public final class TalesTest {
    public static void main(String[] args) {
        drawn();
        lots();
        odds();
        images();
        imageKeeps();
        Due.end();
    }

    /** 32 */
    private static void drawn() {
        LighthouseLiedTo x = new LighthouseLiedTo();
        x.ship(0, 0);
        x.ship(50, 3500);
        x.rock(3, 1);
        Due.due("lost by it", x.drawn(0, 0, 0), 1);
        Due.due("afloat then", x.drawn(0, 0, 1), 2);
        Due.due("seed -1", x.drawn(-1, 0, 0), -2);
        Due.due("seed 100000", x.drawn(100000, 0, 0), -2);
        Due.due("seed 99999", x.drawn(99999, 0, 0), 1);
        Due.due("v 100", x.drawn(0, 100, 0), -2);
        Due.due("v -100", x.drawn(0, -100, 0), -2);
        Due.due("what 2", x.drawn(0, 0, 2), -2);
        Due.due("what -1", x.drawn(0, 0, -1), -2);
        Due.due("it is in thought", x.count(2), 0);
        x.put(0, 0, 0);
        for (int c = 1; c < 4; c++) {
            x.rock(c, c == 3 ? 0 : 0);
        }
        x.rock(11, 1);
        Due.due("lost in the sixth night", x.drawn(0, 0, 0), 1);
        x.rock(11, 0);
        x.rock(17, 1);
        Due.due("not in a seventh", x.drawn(0, 0, 0), 0);
    }

    /** 32, of which cells the light is told: the lots, worked out here by another way. */
    private static void lots() {
        for (int seed = 0; seed <= 99999; seed += 997) {
            java.math.BigInteger lot = java.math.BigInteger.valueOf(seed + 1);
            java.math.BigInteger factor = java.math.BigInteger.valueOf(48271);
            java.math.BigInteger modulus = java.math.BigInteger.valueOf(2147483647);
            LighthouseLiedTo x = new LighthouseLiedTo();
            LighthouseLiedTo y = new LighthouseLiedTo();
            for (LighthouseLiedTo each : new LighthouseLiedTo[] {x, y}) {
                each.force(Due.textOf(each, "shines 0 - belief ; fades 1 ; fears 0 ;"));
                for (int s = 0; s < 6; s++) {
                    each.ship(3, 100 * (s * 7 % 36) + 1);
                }
                for (int c = 0; c < 36; c++) {
                    each.tell(c, c * 5 % 7);
                    each.rock(c, c % 3 == 0 ? 1 : 0);
                }
            }
            int lost = 0;
            for (int i = 0; i < 6; i++) {
                lot = lot.multiply(factor).mod(modulus);
                y.tell(lot.mod(java.math.BigInteger.valueOf(36)).intValue(), 9);
                lost |= y.night();
            }
            Due.due("afloat by seed " + seed, x.drawn(seed, 9, 1), 63 & ~lost);
            Due.due("lost by seed " + seed, x.drawn(seed, 9, 0), Integer.bitCount(lost));
        }
    }

    private static LighthouseLiedTo someSea() {
        LighthouseLiedTo x = new LighthouseLiedTo();
        for (int c : new int[] {3, 8, 15, 21, 22, 27}) {
            x.rock(c, 1);
        }
        for (int s = 0; s < 6; s++) {
            x.ship(10 * (s % 2), 100 * (s * 3) + 50);
        }
        return x;
    }

    /** 33 */
    private static void odds() {
        LighthouseLiedTo x = someSea();
        int seed = 99990;
        for (int most = 0; most <= 6; most++) {
            int good = 0;
            for (int i = 0; i < 10; i++) {
                good += x.drawn(seed + i, 60, 0) <= most ? 1 : 0;
            }
            long above = x.odds(seed, 10, 60, most, 0);
            long below = x.odds(seed, 10, 60, most, 1);
            Due.due("odds of " + most, above * 10, good * below);
            Due.due("lowest terms", java.math.BigInteger.valueOf(above).gcd(
                    java.math.BigInteger.valueOf(below)).intValue(), 1);
        }
        Due.due("all of 40, past 99999", x.odds(99999, 40, 60, 6, 0), 1);
        Due.due("all of 40, below", x.odds(99999, 40, 60, 6, 1), 1);
        LighthouseLiedTo y = new LighthouseLiedTo();
        y.ship(0, 0);
        y.rock(1, 1);
        y.rock(6, 1);
        Due.due("none, above", y.odds(5, 3, 0, 0, 0), 0);
        Due.due("none, below", y.odds(5, 3, 0, 0, 1), 1);
        Due.due("seed 0, of one", y.odds(0, 1, 0, 1, 1), 1);
        Due.due("none of one", y.odds(0, 1, 0, 0, 0), 0);
        int[][] wrong = {{-1, 1, 0, 0, 0}, {100000, 1, 0, 0, 0}, {0, 0, 0, 0, 0}, {0, 41, 0, 0, 0}, {0, 1, 100, 0, 0},
            {0, 1, -100, 0, 0}, {0, 1, 0, -1, 0}, {0, 1, 0, 7, 0}, {0, 1, 0, 0, -1}, {0, 1, 0, 0, 2}};
        for (int[] w : wrong) {
            Due.due("none such", x.odds(w[0], w[1], w[2], w[3], w[4]), LighthouseLiedTo.NO);
        }
    }

    /** 34 and 35 */
    private static void images() {
        LighthouseLiedTo x = new LighthouseLiedTo();
        Due.due("no image", x.back(), -3);
        Due.due("image of none", x.image(), 0);
        x.ship(0, 0);
        Due.due("image of one", x.image(), 1);
        x.ship(50, 100);
        Due.due("back", x.back(), 1);
        Due.due("ships", x.count(0), 1);
        Due.due("no such ship", x.told(1, 0), -5);
        Due.due("another comes", x.ship(30, 3535), 1);
        Due.due("its kind", x.told(1, 2), 3);
        Due.due("back again", x.back(), 1);
    }

    private static void imageKeeps() {
        LighthouseLiedTo x = new LighthouseLiedTo();
        x.ship(0, 7);
        x.ship(50, 3500);
        x.rock(1, 1);
        x.doubts(12);
        Due.due("lost", x.night(), 1);
        Due.textOf(x, "shines 0;fades 0;fears 0;");
        Due.due("image", x.image(), 2);
        x.rock(1, 0);
        x.rock(9, 1);
        x.tell(1, -50);
        x.tell(9, 50);
        x.put(0, 0, 5);
        x.put(0, 1, 5);
        x.doubts(99);
        x.ship(0, 900);
        x.night();
        x.force(1);
        x.put(1, 0, 3);
        x.sheet(0, 2, 5);
        Due.fed(x, "shi");
        Due.textOf(x, "nes 0;fades 0;fears 0;");
        Due.fed(x, "abc");
        Due.due("back", x.back(), 2);
        int[] counts = {2, 1, 1, 13, 1, 3, 0, 3};
        for (int what = 0; what < counts.length; what++) {
            Due.due("count " + what, x.count(what), counts[what]);
        }
        Due.due("rocks", x.sea(0), 2);
        Due.due("belief of 1", x.believes(1), 96);
        Due.due("belief of 9", x.believes(9), 0);
        Due.due("where it was", x.told(0, 0), 1);
        Due.due("its draught", x.told(0, 1), 7);
        Due.due("lost", x.told(0, 4), 1);
        Due.due("the other's place", x.told(1, 0), 35);
        Due.due("sheets stay", x.cell(0, 4, 1), 1);
        Due.due("a ship that comes is afloat", x.ship(0, 0), 2);
        Due.due("afloat", x.told(2, 4), 0);
    }
}
