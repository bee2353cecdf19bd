/** Promises 1 to 6 and 10 to 13: the sea, the light, ships. */
public final class SeaTest {
    public static void main(String[] args) {
        aNewObject();
        counts();
        rocks();
        tells();
        doubts();
        asksOfTheFirstText();
        ships();
        puts();
        tolds();
        Due.end();
    }

    /** 1 */
    private static void aNewObject() {
        LighthouseLiedTo x = new LighthouseLiedTo();
        for (int what : new int[] {0, 1, 2, 3, 4, 6, 7}) {
            Due.due("new: count " + what, x.count(what), 0);
        }
        Due.due("new: texts", x.count(5), 1);
        for (int c = 0; c < 36; c++) {
            Due.due("new: believes " + c, x.believes(c), 0);
        }
        Due.due("new: rocks", x.sea(0), 0);
        for (int q = 0; q < 4; q++) {
            Due.due("new: sheet " + q, x.cell(q, 0, 0), -11);
        }
        Due.due("new: image", x.back(), -3);
    }

    /** 2 */
    private static void counts() {
        LighthouseLiedTo x = new LighthouseLiedTo();
        x.ship(0, 0);
        x.ship(0, 3500);
        x.rock(1, 1);
        x.rock(2, 1);
        x.doubts(7);
        x.feed(3, 32, 32, 32, 0, 0);
        Due.due("lost", x.night(), 1);
        int[] want = {2, 1, 1, 8, 2, 1, 0, 3};
        for (int what = 0; what < want.length; what++) {
            Due.due("count " + what, x.count(what), want[what]);
        }
        Due.due("count -1", x.count(-1), -2);
        Due.due("count 8", x.count(8), -2);
    }

    /** 3 */
    private static void rocks() {
        LighthouseLiedTo x = new LighthouseLiedTo();
        for (int c = 0; c < 36; c++) {
            Due.due("rock there", x.rock(c, 1), 0);
            Due.due("rocks", x.sea(0), (1L << c + 1) - 1);
        }
        Due.due("rock again", x.rock(35, 1), 1);
        Due.due("rock off", x.rock(35, 0), 1);
        Due.due("rock off again", x.rock(35, 0), 0);
        Due.due("rocks left", x.count(4), 35);
        Due.due("rock -1", x.rock(-1, 2), -5);
        Due.due("rock 36", x.rock(36, 1), -5);
        Due.due("rock is -1", x.rock(0, -1), -7);
        Due.due("rock is 2", x.rock(0, 2), -7);
        Due.due("rocks as before", x.count(4), 35);
    }

    /** 4 and 5 */
    private static void tells() {
        LighthouseLiedTo x = new LighthouseLiedTo();
        Due.due("told 99", x.tell(0, 99), 99);
        Due.due("told above", x.tell(0, 1), 99);
        Due.due("told less", x.tell(0, -99), 0);
        Due.due("told below", x.tell(0, -1), 0);
        x.doubts(9);
        Due.due("doubt 9", x.tell(1, 55), 55);
        x.doubts(10);
        Due.due("doubt 10, cut", x.tell(2, 55), 27);
        Due.due("doubt 10, cut toward 0", x.tell(2, -55), 0);
        Due.due("doubt 10 again", x.tell(2, 99), 49);
        Due.due("doubt 10, less, toward 0", x.tell(2, -3), 48);
        x.doubts(99);
        Due.due("doubt 99", x.tell(3, 99), 9);
        Due.due("doubt 99, nothing", x.tell(3, 9), 9);
        Due.due("doubt 99, no less", x.tell(3, -9), 9);
        Due.due("believes", x.believes(2), 48);
        Due.due("tell -1", x.tell(-1, 100), -5);
        Due.due("tell 36", x.tell(36, 1), -5);
        Due.due("tell 100", x.tell(0, 100), -7);
        Due.due("tell -100", x.tell(0, -100), -7);
        Due.due("believes -1", x.believes(-1), -5);
        Due.due("believes 36", x.believes(36), -5);
    }

    /** 6 */
    private static void doubts() {
        LighthouseLiedTo x = new LighthouseLiedTo();
        Due.due("doubts 99", x.doubts(99), 0);
        Due.due("doubts 100", x.doubts(100), -2);
        Due.due("doubts -1", x.doubts(-1), -2);
        Due.due("doubts 0", x.doubts(0), 99);
        Due.due("doubt", x.count(3), 0);
    }

    /** 10, of the text that is there at first */
    private static void asksOfTheFirstText() {
        LighthouseLiedTo x = new LighthouseLiedTo();
        x.tell(20, 30);
        x.ship(0, 0);
        for (int s = -1; s < 1; s++) {
            Due.due("shines", x.asks(0, 20, s), 50 + 2 + 3 - 30);
            Due.due("fades", x.asks(1, 20, s), 3);
            Due.due("fears", x.asks(2, 20, s), 30);
        }
        Due.due("asks part -1", x.asks(-1, 0, -1), -1000);
        Due.due("asks part 3", x.asks(3, 0, -1), -1000);
        Due.due("asks cell -1", x.asks(0, -1, -1), -1000);
        Due.due("asks cell 36", x.asks(0, 36, -1), -1000);
        Due.due("asks ship -2", x.asks(0, 0, -2), -1000);
        Due.due("asks ship 1", x.asks(0, 0, 1), -1000);
        x.rock(0, 1);
        x.rock(1, 1);
        Due.due("lost", x.night(), 1);
        Due.due("asks of a lost one", x.asks(1, 20, 0), 3);
    }

    /** 11 */
    private static void ships() {
        LighthouseLiedTo x = new LighthouseLiedTo();
        Due.due("ship 60", x.ship(60, 0), -2);
        Due.due("ship -1", x.ship(-1, 0), -2);
        Due.due("ship at 36", x.ship(0, 3600), -2);
        Due.due("ship at -1", x.ship(0, -1), -2);
        Due.due("none came", x.count(0), 0);
        Due.due("ship 0", x.ship(59, 3599), 0);
        Due.due("cell", x.told(0, 0), 35);
        Due.due("draught", x.told(0, 1), 99);
        Due.due("kind", x.told(0, 2), 5);
        Due.due("more", x.told(0, 3), 9);
        Due.due("lost", x.told(0, 4), 0);
        for (int s = 1; s < 6; s++) {
            Due.due("ship " + s, x.ship(10 * s + 1, 100 * s + 2), s);
        }
        Due.due("a seventh, bad", x.ship(60, 0), -2);
        Due.due("a seventh", x.ship(0, 0), -4);
        Due.due("six", x.count(0), 6);
    }

    /** 12 */
    private static void puts() {
        LighthouseLiedTo x = new LighthouseLiedTo();
        x.ship(0, 0);
        Due.due("put cell", x.put(0, 0, 35), 0);
        Due.due("put draught", x.put(0, 1, 99), 0);
        Due.due("put cell 36", x.put(0, 0, 36), -7);
        Due.due("put cell -1", x.put(0, 0, -1), -7);
        Due.due("put draught 100", x.put(0, 1, 100), -7);
        Due.due("put draught -1", x.put(0, 1, -1), -7);
        Due.due("put 2", x.put(0, 2, 0), -7);
        Due.due("put -1", x.put(0, -1, 0), -7);
        Due.due("put of none", x.put(1, 2, 0), -5);
        Due.due("put of -1", x.put(-1, 0, 0), -5);
        Due.due("cell", x.put(0, 0, 0), 35);
        Due.due("draught", x.put(0, 1, 0), 99);
        x.rock(0, 1);
        x.rock(1, 1);
        x.night();
        Due.due("put of a lost one", x.put(0, 0, 9), 1);
        Due.due("is there", x.told(0, 0), 9);
        Due.due("is lost", x.told(0, 4), 1);
    }

    /** 13 */
    private static void tolds() {
        LighthouseLiedTo x = new LighthouseLiedTo();
        x.ship(0, 0);
        Due.due("of like ones the first", x.told(0, 5), 1);
        x.tell(1, 1);
        Due.due("a row further", x.told(0, 5), 6);
        x.tell(6, 1);
        Due.due("stays, as it likes none more", x.told(0, 5), 0);
        x.put(0, 0, 35);
        x.tell(35, 1);
        Due.due("stays at the corner", x.told(0, 5), 35);
        x.tell(35, 9);
        Due.due("a column back ahead of a row back", x.told(0, 5), 34);
        order();
        x.put(0, 0, 6);
        x.tell(6, 50);
        x.tell(7, 50);
        x.tell(12, 50);
        Due.due("a row back", x.told(0, 5), 0);
        x.put(0, 0, 5);
        x.tell(5, 50);
        x.tell(4, 99);
        x.tell(11, 99);
        Due.due("none around the side of the sea", x.told(0, 5), 5);
        Due.due("told 7", x.told(0, 7), -7);
        Due.due("told -1", x.told(0, -1), -7);
        Due.due("told of none", x.told(1, 7), -5);
        Due.due("told of -1", x.told(-1, 0), -5);
        x.put(0, 0, 0);
        x.rock(0, 1);
        x.night();
        Due.due("lost", x.told(0, 4), 1);
        Due.due("a lost one would go", x.told(0, 5), 1);
        x.tell(0, -99);
        x.tell(1, 9);
        x.tell(6, 9);
        Due.due("a lost one would stay", x.told(0, 5), 0);
        sinks();
    }

    /** 13, of like ones the first. */
    private static void order() {
        LighthouseLiedTo x = new LighthouseLiedTo();
        x.force(Due.textOf(x, "shines 99 - belief ; fades 0 ; fears 0 ;"));
        x.ship(0, 1400);
        x.tell(14, 9);
        int[] beside = {15, 13, 20, 8};
        for (int c : beside) {
            Due.due("the first of those left", x.told(0, 5), c);
            x.tell(c, 9);
        }
        Due.due("stays", x.told(0, 5), 14);
    }

    private static void sinks() {
        LighthouseLiedTo x = new LighthouseLiedTo();
        int[] sinks = {1, 1, 0, 1, 0, 0};
        for (int k = 0; k < 6; k++) {
            x.ship(10 * k + 5, 5);
            Due.due("sinks of kind " + k, x.told(k, 6), sinks[k]);
            x.put(k, 1, 6);
            Due.due("sinks deep of kind " + k, x.told(k, 6), k == 5 ? 0 : 1);
        }
        for (int night = 1; night < 11; night++) {
            x.night();
            Due.due("a raft sinks in night " + night, x.told(4, 6), night % 5 == 0 ? 1 : 0);
            Due.due("a barge sinks in night " + night, x.told(2, 6), 1);
        }
    }
}
