/** The bounds of promises 32 to 35: SEEDS, how many of them, no IMAGE yet, SHIPS that came since. */
public final class EdgeTalesTest {
    private static final int LEAST = Integer.MIN_VALUE, MOST = Integer.MAX_VALUE;
    private static final long NO = LighthouseLiedTo.NO;
    private static final String STILL = "shines 0 ; fades 0 ; fears 0 ;";

    public static void main(String[] args) {
        drawnNumbers();
        lotsOfTheFirstSeed();
        lotsOfTheLastSeed();
        sixNights();
        toldAheadOfEach();
        drawnOfTheLost();
        oddsNumbers();
        oddsOfOne();
        oddsOfForty();
        oddsPastTheLast();
        oddsLines();
        oddsMost();
        noImage();
        imageOfNone();
        imageKeepsEach();
        imageKeepsNoOther();
        imageAgain();
        shipsSince();
        changesNothing();
        Due.end();
    }

    private static LighthouseLiedTo with(String text) {
        LighthouseLiedTo x = new LighthouseLiedTo();
        Due.due(text, x.force(Due.textOf(x, text)), 0);
        return x;
    }

    /** 32: "TALES by a SEED (0 .. 99999), by v (-99 .. 99)", "what 0", "1": "BAD." */
    private static void drawnNumbers() {
        LighthouseLiedTo x = new LighthouseLiedTo();
        x.ship(50, 0);
        for (int seed : new int[] {-1, 100000, LEAST, MOST}) {
            Due.due("32: seed " + seed, x.drawn(seed, 0, 0), -2);
        }
        for (int v : new int[] {-100, 100, LEAST, MOST}) {
            Due.due("32: v " + v, x.drawn(0, v, 0), -2);
        }
        for (int what : new int[] {-1, 2, LEAST, MOST}) {
            Due.due("32: what " + what, x.drawn(0, 0, what), -2);
        }
        for (int seed = 0; seed < 100000; seed += 99999) {
            for (int v = -99; v <= 99; v += 99) {
                Due.due("32: seed " + seed + ", v " + v, x.drawn(seed, v, 0), 0);
                Due.due("32: afloat by seed " + seed + ", v " + v, x.drawn(seed, v, 1), 1);
            }
        }
    }

    /** A ship stays in a cell amid rocks till the light is told of that cell: how many are lost tells whether it is. */
    private static int lostIfTold(int seed, int cell) {
        LighthouseLiedTo x = with("shines 0 - belief ; fades 0 ; fears 0 ;");
        x.ship(0, 100 * cell);
        for (int c = 0; c < 36; c++) {
            x.rock(c, c == cell ? 0 : 1);
        }
        return x.drawn(seed, 9, 0);
    }

    /** LOTS: "the first is (SEED and 1) times 48271 modulo 2147483647, each further one the last times 48271 ..." */
    private static void lotsOfTheFirstSeed() {
        // 48271, 182605794, 1291394886, 1914720637, 2078669041, 407355683, modulo 36.
        lots(0, 31, 6, 6, 13, 25, 23);
    }

    /** As above, of SEED 99999: 100000 times 48271 is beyond 2147483647. */
    private static void lotsOfTheLastSeed() {
        // 532132706, 525949559, 559487655, 274249833, 1224488635, 2098483704, modulo 36.
        lots(99999, 2, 35, 27, 33, 7, 0);
    }

    private static void lots(int seed, int... cells) {
        for (int c = 0; c < 36; c++) {
            boolean drawn = false;
            for (int cell : cells) {
                drawn |= cell == c;
            }
            Due.due("32: the light is told of " + c + " by seed " + seed, lostIfTold(seed, c), drawn ? 1 : 0);
        }
    }

    /** "six NIGHTS": what comes in the sixth is in it, what comes in the seventh is not */
    private static void sixNights() {
        for (int night = 3; night <= 7; night++) {
            LighthouseLiedTo x = with("shines (" + (night - 2) + " < night) * column ; fades 0 ; fears 0 ;");
            x.ship(0, 0);
            x.rock(1, 1);
            Due.due("32: lost in night " + night, x.drawn(5, 0, 0), night <= 6 ? 1 : 0);
            Due.due("32: afloat, night " + night, x.drawn(5, 0, 1), night <= 6 ? 0 : 1);
            Due.due("33: lost in night " + night, x.odds(5, 1, 0, 0, 0), night <= 6 ? 0 : 1);
        }
    }

    /** "ahead of each the light is TOLD of CELL LOT modulo 36 by v": ahead, so that the night goes by it */
    private static void toldAheadOfEach() {
        // By SEED 0 it is 31 ahead of the first night, 23 ahead of the sixth.
        LighthouseLiedTo x = with("shines (night = 0) * belief ; fades 99 ; fears 0 ;");
        x.ship(0, 3000);
        x.rock(31, 1);
        Due.due("32: of 31 ahead of the first", x.drawn(0, 1, 0), 1);
        Due.due("32: by 0 it is not lured", x.drawn(0, 0, 0), 0);
        Due.due("32: nor by less", x.drawn(0, -99, 0), 0);
        x = with("shines (night = 5) * belief ; fades 99 ; fears 0 ;");
        x.ship(0, 1700);
        x.rock(23, 1);
        Due.due("32: of 23 ahead of the sixth", x.drawn(0, 1, 0), 1);
        x.doubts(10);
        Due.due("32: told as ever, cut by doubt", x.drawn(0, 1, 0), 0);
        Due.due("32: 2 by 2", x.drawn(0, 2, 0), 1);
        Due.due("32: in thought", x.believes(31) + x.count(2), 0);
    }

    /** 32: "how many SHIPS are LOST by them", "which are AFLOAT then": those LOST before are neither */
    private static void drawnOfTheLost() {
        LighthouseLiedTo x = with(STILL);
        for (int s = 0; s < 6; s++) {
            x.ship(0, 100 * s);
        }
        x.rock(0, 1);
        x.rock(5, 1);
        Due.due("32: two are lost", x.night(), 33);
        Due.due("32: none by tales", x.drawn(7, 9, 0), 0);
        Due.due("32: afloat then", x.drawn(7, 9, 1), 30);
        Due.due("33: none by odds", x.odds(7, 3, 9, 0, 0), 1);
        x.rock(1, 1);
        x.rock(4, 1);
        Due.due("32: two more", x.drawn(7, 9, 0), 2);
        Due.due("32: afloat then, two", x.drawn(7, 9, 1), 12);
        Due.due("33: two by odds", x.odds(7, 3, 9, 1, 0), 0);
        Due.due("33: two or fewer", x.odds(7, 3, 9, 2, 0), 1);
    }

    /** 33: "so many (1 .. 40) seeds", "most (0 .. 6)", part: "NO: none such." */
    private static void oddsNumbers() {
        LighthouseLiedTo x = new LighthouseLiedTo();
        for (int seed : new int[] {-1, 100000, LEAST, MOST}) {
            Due.due("33: seed " + seed, x.odds(seed, 1, 0, 0, 0), NO);
        }
        for (int seeds : new int[] {-1, 0, 41, LEAST, MOST}) {
            Due.due("33: seeds " + seeds, x.odds(0, seeds, 0, 0, 0), NO);
            Due.due("33: seeds " + seeds + ", below", x.odds(0, seeds, 0, 0, 1), NO);
        }
        for (int v : new int[] {-100, 100, LEAST, MOST}) {
            Due.due("33: v " + v, x.odds(0, 1, v, 0, 0), NO);
        }
        for (int most : new int[] {-1, 7, LEAST, MOST}) {
            Due.due("33: most " + most, x.odds(0, 1, 0, most, 0), NO);
        }
        for (int part : new int[] {-1, 2, LEAST, MOST}) {
            Due.due("33: part " + part, x.odds(0, 1, 0, 0, part), NO);
        }
        Due.due("33: seed 0, v -99, most 0", x.odds(0, 1, -99, 0, 0), 1);
        Due.due("33: seed 99999, 40, v 99, most 6", x.odds(99999, 40, 99, 6, 1), 1);
    }

    /** A ship that is lost by a seed just if the light is told of the cell beside it ahead of the first night. */
    private static LighthouseLiedTo lured(int cell, int by) {
        LighthouseLiedTo x = with("shines (night = 0) * belief ; fades 99 ; fears 0 ;");
        x.ship(0, 100 * cell);
        x.rock(by, 1);
        return x;
    }

    /** 33: one seed: none of it, or all of it */
    private static void oddsOfOne() {
        LighthouseLiedTo x = lured(30, 31);
        Due.due("33: of seed 0 none is good, above", x.odds(0, 1, 9, 0, 0), 0);
        Due.due("33: of seed 0 none is good, below", x.odds(0, 1, 9, 0, 1), 1);
        Due.due("33: one may be lost, above", x.odds(0, 1, 9, 1, 0), 1);
        Due.due("33: one may be lost, below", x.odds(0, 1, 9, 1, 1), 1);
        Due.due("33: by 0, above", x.odds(0, 1, 0, 0, 0), 1);
    }

    private static int goodOf(int seed, int seeds, int by) {
        int good = 0;
        for (long each = seed; each < seed + seeds; each++) {
            good += (each + 1) * 48271 % 2147483647 % 36 == by ? 0 : 1;
        }
        return good;
    }

    private static int divisor(int a, int b) {
        return b == 0 ? a : divisor(b, a % b);
    }

    private static void odds(LighthouseLiedTo x, int seed, int seeds, int good) {
        int by = divisor(good, seeds);
        Due.due("33: above, seed " + seed + ", " + seeds, x.odds(seed, seeds, 9, 0, 0), good / by);
        Due.due("33: below, seed " + seed + ", " + seeds, x.odds(seed, seeds, 9, 0, 1), seeds / by);
    }

    /** 33: "SEED and each 1 more": how many, from 1 to 40 */
    private static void oddsOfForty() {
        LighthouseLiedTo x = lured(30, 31);
        for (int seeds = 1; seeds <= 40; seeds++) {
            odds(x, 0, seeds, goodOf(0, seeds, 31));
        }
        // Seed 36 is the next one by which it is lost, so that the 37th counts.
        Due.due("33: 35 of 36", goodOf(0, 36, 31), 35);
    }

    /** 33: "(they may pass 99999)" */
    private static void oddsPastTheLast() {
        for (int by = 0; by < 36; by++) {
            LighthouseLiedTo x = lured(by % 6 == 0 ? by + 1 : by - 1, by);
            odds(x, 99999, 1, goodOf(99999, 1, by));
            odds(x, 99999, 40, goodOf(99999, 40, by));
            odds(x, 99980, 30, goodOf(99980, 30, by));
        }
    }

    /** 33: "part 0 above, 1 below the line, in lowest terms": none of them, all, between */
    private static void oddsLines() {
        LighthouseLiedTo x = with(STILL);
        x.ship(0, 0);
        Due.due("33: all of 40, above", x.odds(0, 40, 0, 0, 0), 1);
        Due.due("33: all of 40, below", x.odds(0, 40, 0, 0, 1), 1);
        x.rock(0, 1);
        Due.due("33: none of 40, above", x.odds(0, 40, 0, 0, 0), 0);
        Due.due("33: none of 40, below", x.odds(0, 40, 0, 0, 1), 1);
        x = lured(30, 31);
        x.ship(0, 100);
        int good = goodOf(0, 38, 31);
        Due.due("33: 36 of 38", good, 36);
        Due.due("33: 18", x.odds(0, 38, 9, 0, 0), 18);
        Due.due("33: 19", x.odds(0, 38, 9, 0, 1), 19);
    }

    /** 33: "most (0 .. 6) or fewer are LOST": each number of six */
    private static void oddsMost() {
        for (int lost = 0; lost <= 6; lost++) {
            LighthouseLiedTo x = with(STILL);
            for (int s = 0; s < 6; s++) {
                x.ship(0, 100 * s);
                x.rock(s, s < lost ? 1 : 0);
            }
            Due.due("32: so many", x.drawn(0, 0, 0), lost);
            for (int most = 0; most <= 6; most++) {
                Due.due("33: " + lost + " of at most " + most, x.odds(0, 2, 0, most, 0), lost <= most ? 1 : 0);
            }
        }
    }

    /** 35: "STATE: there is none." */
    private static void noImage() {
        LighthouseLiedTo x = new LighthouseLiedTo();
        x.ship(0, 0);
        x.tell(3, 9);
        String before = Seen.of(x);
        Due.due("35: none", x.back(), -3);
        Due.holds("35: nothing is other", Seen.of(x).equals(before));
        Due.due("34: one", x.image(), 1);
        Due.due("35: back", x.back(), 1);
        Due.due("35: and once more", x.back(), 1);
    }

    /** 34: an IMAGE of no SHIPS is one */
    private static void imageOfNone() {
        LighthouseLiedTo x = new LighthouseLiedTo();
        Due.due("34: of none", x.image(), 0);
        for (int s = 0; s < 6; s++) {
            x.ship(0, 100 * s);
        }
        Due.due("35: none again", x.back(), 0);
        Due.due("35: count", x.count(0), 0);
        Due.due("35: afloat", x.count(1), 0);
        Due.due("35: no such ship", x.told(0, 0), -5);
        Due.due("35: room for them", x.ship(0, 0), 0);
    }

    /** "AN IMAGE keeps ROCKS, BELIEF, DOUBT, NIGHT, where all SHIPS are, DRAUGHTS, which are LOST, .., THE LAW" */
    private static void imageKeepsEach() {
        for (int change = 0; change < 9; change++) {
            LighthouseLiedTo x = new LighthouseLiedTo();
            Due.textOf(x, STILL);
            x.force(1);
            for (int s = 0; s < 5; s++) {
                x.ship(10 * s + 3, 700 * s + 9);
            }
            x.rock(0, 1);
            x.tell(35, 44);
            x.night();
            x.doubts(12);
            String before = Seen.of(x);
            Due.due("34: five", x.image(), 5);
            change(x, change);
            Due.holds("35: it was changed by " + change, !Seen.of(x).equals(before));
            Due.due("35: five", x.back(), 5);
            Due.holds("35: as in the image, changed by " + change, Seen.of(x).equals(before));
        }
    }

    private static void change(LighthouseLiedTo x, int what) {
        switch (what) {
            case 0: x.rock(35, 1); break;
            case 1: x.tell(0, -50); break;
            case 2: x.doubts(11); break;
            case 3: x.night(); break;
            case 4: x.put(4, 0, 1); break;
            case 5: x.put(4, 1, 1); break;
            case 6: x.rock(7, 1); x.night(); break;
            case 7: x.ship(0, 0); break;
            default: x.force(0); break;
        }
    }

    /** It keeps neither TEXTS nor THE TAPE nor SHEETS: these are as they were ahead of back(). */
    private static void imageKeepsNoOther() {
        LighthouseLiedTo x = new LighthouseLiedTo();
        x.ship(50, 0);
        Due.told(x, 0, 7);
        x.image();
        Due.told(x, 0, 0, 0);
        x.film(1, 0, 3);
        Due.due("a text that came since", Due.textOf(x, "shines 1;fades 2;fears 3;"), 1);
        x.force(1);
        x.feed(5, 's', 'h', 'i', 'n', 'e');
        Due.due("35: back", x.back(), 1);
        Due.due("35: the law is as in the image", x.count(6), 0);
        Due.due("35: texts stay", x.count(5), 2);
        Due.due("35: that text is as it was", x.force(1) + x.asks(1, 0, -1), 2);
        Due.due("35: the tape stays", x.count(7), 5);
        Due.due("35: sheet 0 stays", x.judge(0, 0), -1);
        Due.due("35: with two numbers", x.copy(0, 0, 0, 0, 2), 2);
        Due.due("35: sheet 1 stays", x.copy(1, 0, 1, 0, 3), 3);
    }

    /** A later IMAGE takes the place of the one before; back() keeps it. */
    private static void imageAgain() {
        LighthouseLiedTo x = new LighthouseLiedTo();
        x.tell(0, 1);
        x.image();
        x.tell(0, 1);
        Due.due("34: another", x.image(), 0);
        x.tell(0, 1);
        for (int i = 0; i < 3; i++) {
            Due.due("35: back", x.back(), 0);
            Due.due("35: as in the later one", x.believes(0), 2);
            x.tell(0, 50);
            x.night();
        }
    }

    /** 35: "SHIPS that came since are none": others that come then are new ones, AFLOAT, of their own kind */
    private static void shipsSince() {
        LighthouseLiedTo x = with(STILL);
        x.ship(0, 0);
        x.image();
        x.ship(11, 722);
        x.ship(22, 800);
        x.rock(7, 1);
        Due.due("35: one that came since is lost", x.night(), 2);
        Due.due("35: back", x.back(), 1);
        Due.due("35: count", x.count(0), 1);
        Due.due("35: afloat", x.run(0, 0), 1);
        Due.due("35: ship 1 is none", x.told(1, 4), -5);
        Due.due("35: nor by taken()", x.taken(1, 0), -11);
        Due.due("35: nor by put()", x.put(2, 0, 0), -5);
        Due.due("35: another", x.ship(33, 3344), 1);
        int[] told = {33, 44, 3, 3, 0};
        for (int what = 0; what < 5; what++) {
            Due.due("35: its own, " + what, x.told(1, what), told[what]);
        }
        Due.due("35: ship 2 is none", x.told(2, 0), -5);
        Due.due("34: of two", x.image(), 2);
        Due.due("35: of two", x.back(), 2);
        Due.due("35: its kind stays", x.told(1, 2), 3);
    }

    /** "What is asked changes nothing", and "They change nothing" of refusals */
    private static void changesNothing() {
        LighthouseLiedTo x = new LighthouseLiedTo();
        x.ship(0, 0);
        x.ship(20, 3500);
        x.rock(2, 1);
        x.tell(3, 70);
        String before = Seen.of(x);
        for (int part = -1; part < 3; part++) {
            x.drawn(0, 99, part);
            x.drawn(99999, -99, part);
            x.odds(99999, 40, 99, 0, part);
            x.odds(0, 0, 99, 0, part);
        }
        Due.holds("32, 33: nothing is other", Seen.of(x).equals(before));
        x.image();
        Due.holds("34: nothing is other", Seen.of(x).equals(before));
    }
}
