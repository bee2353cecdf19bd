/** The bounds of promises 1 to 13: each argument just inside and just outside, each refusal and their order. */
public final class EdgeSeaTest {
    private static final int LEAST = Integer.MIN_VALUE, MOST = Integer.MAX_VALUE;
    private static final int[] NO_CELLS = {-1, 36, LEAST, MOST};

    public static void main(String[] args) {
        aNewObject();
        counts();
        rocks();
        rockOrder();
        tells();
        believes();
        doubts();
        feedNumbers();
        feedBytes();
        feedRoom();
        textEmpties();
        textNumbers();
        textFull();
        forces();
        asks();
        shipNumbers();
        shipFull();
        puts();
        tolds();
        toldsOfTheLost();
        changesNothing();
        Due.end();
    }

    /** 1: "No ROCKS, no SHIPS" and what Terms tells of "at first" */
    private static void aNewObject() {
        LighthouseLiedTo x = new LighthouseLiedTo();
        int[] counts = {0, 0, 0, 0, 0, 1, 0, 0};
        for (int what = 0; what < 8; what++) {
            Due.due("1: count " + what, x.count(what), counts[what]);
        }
        Due.due("1: no rocks", x.sea(0), 0);
        for (int c = 0; c < 36; c++) {
            Due.due("1: belief of " + c, x.believes(c), 0);
        }
        for (int s = 0; s < 6; s++) {
            Due.due("1: no ship " + s, x.told(s, 0), -5);
        }
        for (int q = 0; q < 4; q++) {
            Due.due("1: sheet " + q + " is missing", x.whose(q), -11);
        }
        Due.due("1: no image", x.back(), -3);
        x.tell(0, 9);
        x.rock(0, 1);
        Due.due("1: another is new for all that", new LighthouseLiedTo().believes(0), 0);
    }

    /** 2: "BAD." of each but 0 .. 7; LOST ones are SHIPS, but not AFLOAT */
    private static void counts() {
        LighthouseLiedTo x = new LighthouseLiedTo();
        for (int what : new int[] {-1, 8, LEAST, MOST}) {
            Due.due("2: what " + what, x.count(what), -2);
        }
        for (int s = 0; s < 6; s++) {
            x.ship(0, 0);
        }
        for (int c = 0; c < 36; c++) {
            x.rock(c, 1);
        }
        Due.due("2: six ships", x.count(0), 6);
        Due.due("2: six afloat", x.count(1), 6);
        Due.due("2: all are rocks", x.count(4), 36);
        Due.due("2: all are lost", x.night(), 63);
        Due.due("2: six ships still", x.count(0), 6);
        Due.due("2: none afloat", x.count(1), 0);
        Due.due("2: a night", x.count(2), 1);
    }

    /** 3: "In a CELL there is a ROCK (is 1), or none (0): as it was" */
    private static void rocks() {
        LighthouseLiedTo x = new LighthouseLiedTo();
        for (int c = 0; c < 36; c += 35) {
            Due.due("3: none, none", x.rock(c, 0), 0);
            Due.due("3: none, one", x.rock(c, 1), 0);
            Due.due("3: one, one", x.rock(c, 1), 1);
            Due.due("3: is there", x.sea(0), c == 0 ? 1L : 1L | 1L << 35);
            Due.due("3: one, none", x.rock(c, 0), 1);
            Due.due("3: none again", x.rock(c, 0), 0);
            x.rock(c, 1);
        }
    }

    /** 3: "-5: no such CELL; -7: is." */
    private static void rockOrder() {
        LighthouseLiedTo x = new LighthouseLiedTo();
        x.rock(0, 1);
        String before = Seen.of(x);
        for (int c : NO_CELLS) {
            Due.due("3: cell " + c, x.rock(c, 1), -5);
            Due.due("3: cell " + c + " ahead of is", x.rock(c, 2), -5);
        }
        for (int is : new int[] {-1, 2, LEAST, MOST}) {
            Due.due("3: is " + is, x.rock(0, is), -7);
            Due.due("3: is " + is + " of cell 35", x.rock(35, is), -7);
        }
        Due.holds("3: nothing is other", Seen.of(x).equals(before));
    }

    /** 4: "by v (-99 .. 99)", "-5: no such CELL; -7: v." */
    private static void tells() {
        LighthouseLiedTo x = new LighthouseLiedTo();
        Due.due("4: cell 0, v 99", x.tell(0, 99), 99);
        Due.due("4: cell 0, v -99", x.tell(0, -99), 0);
        Due.due("4: cell 35, v 98", x.tell(35, 98), 98);
        Due.due("4: cell 35, v -98", x.tell(35, -97), 1);
        Due.due("4: cell 35, v 0", x.tell(35, 0), 1);
        String before = Seen.of(x);
        for (int c : NO_CELLS) {
            Due.due("4: cell " + c, x.tell(c, 1), -5);
            Due.due("4: cell " + c + " ahead of v", x.tell(c, 100), -5);
        }
        for (int v : new int[] {-100, 100, LEAST, MOST}) {
            Due.due("4: v " + v, x.tell(0, v), -7);
            Due.due("4: v " + v + " of cell 35", x.tell(35, v), -7);
        }
        Due.holds("4: nothing is other", Seen.of(x).equals(before));
    }

    /** 5: "-5: no such CELL." */
    private static void believes() {
        LighthouseLiedTo x = new LighthouseLiedTo();
        x.tell(0, 3);
        x.tell(35, 4);
        Due.due("5: cell 0", x.believes(0), 3);
        Due.due("5: cell 35", x.believes(35), 4);
        for (int c : NO_CELLS) {
            Due.due("5: cell " + c, x.believes(c), -5);
        }
    }

    /** 6: "DOUBT becomes v (0 .. 99): what it was. BAD." */
    private static void doubts() {
        LighthouseLiedTo x = new LighthouseLiedTo();
        Due.due("6: 99", x.doubts(99), 0);
        for (int v : new int[] {-1, 100, LEAST, MOST}) {
            Due.due("6: v " + v, x.doubts(v), -2);
            Due.due("6: as it was", x.count(3), 99);
        }
        Due.due("6: 0", x.doubts(0), 99);
        Due.due("6: 98", x.doubts(98), 0);
        Due.due("6: 1", x.doubts(1), 98);
        Due.due("6: 1 again", x.doubts(1), 1);
    }

    /** 7: "The first n (1 .. 5)": "BAD: n" */
    private static void feedNumbers() {
        LighthouseLiedTo x = new LighthouseLiedTo();
        for (int n : new int[] {0, 6, -1, LEAST, MOST}) {
            Due.due("7: n " + n, x.feed(n, 32, 32, 32, 32, 32), -2);
        }
        Due.due("7: none came", x.count(7), 0);
        int all = 0;
        for (int n = 1; n <= 5; n++) {
            all += n;
            Due.due("7: n " + n, x.feed(n, 32, 32, 32, 32, 32), all);
            Due.due("7: count", x.count(7), all);
        }
    }

    /** 7: "five bytes (0 .. 255 each)": "BAD: .. any of the five", also of those that don't come */
    private static void feedBytes() {
        LighthouseLiedTo x = new LighthouseLiedTo();
        for (int n = 1; n <= 5; n += 4) {
            for (int place = 0; place < 5; place++) {
                for (int wrong : new int[] {-1, 256, LEAST, MOST}) {
                    int[] b = {32, 32, 32, 32, 32};
                    b[place] = wrong;
                    Due.due("7: byte " + place + " is " + wrong, x.feed(n, b[0], b[1], b[2], b[3], b[4]), -2);
                }
            }
        }
        Due.due("7: none came", x.count(7), 0);
        Due.due("7: 0 and 255", x.feed(5, 0, 255, 0, 255, 0), 5);
        Due.due("7: 255 and 0", x.feed(2, 255, 0, 255, 0, 255), 7);
        // The first n come, in their order, behind what stands there.
        x = new LighthouseLiedTo();
        x.feed(5, 's', 'h', 'i', 'n', 'e');
        x.feed(4, 's', ' ', '4', ';', '?');
        x.feed(3, 'f', 'a', 'd', '?', '?');
        x.feed(2, 'e', 's', '?', '?', '?');
        x.feed(1, ' ', '?', '?', '?', '?');
        x.feed(5, '5', ';', 'f', 'e', 'a');
        x.feed(5, 'r', 's', ' ', '6', ';');
        Due.due("7: in their order", x.text(), 1);
        x.force(1);
        for (int part = 0; part < 3; part++) {
            Due.due("7: as fed, part " + part, x.asks(part, 0, -1), 4 + part);
        }
    }

    /** 7: "FULL: they have not all room (none comes)"; THE TAPE of 160 bytes at most */
    private static void feedRoom() {
        for (int n = 1; n <= 5; n++) {
            LighthouseLiedTo x = new LighthouseLiedTo();
            for (int i = 0; i < 31; i++) {
                x.feed(5, 32, 32, 32, 32, 32);
            }
            for (int i = 0; i < 6 - n; i++) {
                x.feed(1, 32, 0, 0, 0, 0);
            }
            Due.due("7: room for " + (n - 1), x.count(7), 161 - n);
            Due.due("7: none of " + n, x.feed(n, 32, 32, 32, 32, 32), -4);
            Due.due("7: BAD ahead of FULL", x.feed(n, 256, 32, 32, 32, 32), -2);
            Due.due("7: n ahead of FULL", x.feed(6, 32, 32, 32, 32, 32), -2);
            Due.due("7: none came", x.count(7), 161 - n);
            if (n > 1) {
                Due.due("7: but so many", x.feed(n - 1, 32, 32, 32, 32, 32), 160);
            }
            Due.due("7: full", x.feed(1, 32, 32, 32, 32, 32), -4);
            Due.due("7: all of it is read", x.text(), -260);
            Due.due("7: and has room again", x.feed(5, 32, 32, 32, 32, 32), 5);
        }
    }

    /** 8: "THE TAPE, which is empty then (by a FAULT, too)" */
    private static void textEmpties() {
        LighthouseLiedTo x = new LighthouseLiedTo();
        Due.due("8: of an empty tape", x.text(), -100);
        Due.due("8: a text", Due.textOf(x, "shines 1;fades 1;fears 1;"), 1);
        Due.due("8: empty", x.count(7), 0);
        Due.due("8: a second time", x.text(), -100);
        Due.due("8: a fault", Due.textOf(x, "shines 1;fades 1;fears ?;"), -123);
        Due.due("8: empty by a fault", x.count(7), 0);
        Due.due("8: a fault is no text", x.count(5), 2);
        Due.due("8: what was faulty is gone", Due.textOf(x, "shines 2;fades 2;fears 2;"), 2);
    }

    /** 8: "its number; -100 less the place of its FAULT": the first and the last place */
    private static void textNumbers() {
        LighthouseLiedTo x = new LighthouseLiedTo();
        Due.due("8: place 0", Due.textOf(x, "?"), -100);
        Due.due("8: place 1", Due.textOf(x, " ?"), -101);
        StringBuilder s = new StringBuilder();
        while (s.length() < 159) {
            s.append(' ');
        }
        Due.due("8: place 159", Due.textOf(x, s + "?"), -259);
        Due.due("8: place 158", Due.textOf(x, s.substring(1) + "?"), -258);
        for (int i = 0; i < 32; i++) {
            x.feed(5, 10, 10, 10, 10, 10);
        }
        Due.due("8: place 160", x.text(), -260);
        for (int t = 1; t < 6; t++) {
            Due.due("8: number", Due.textOf(x, "shines 1;fades 1;fears 1;"), t);
        }
    }

    /** 8: "FULL (ahead of the FAULT; then THE TAPE stays)"; TEXTS: 6 at most */
    private static void textFull() {
        LighthouseLiedTo x = new LighthouseLiedTo();
        for (int t = 1; t < 6; t++) {
            for (String piece : new String[] {"shine", "s 1;f", "ades ", "1;fea", "rs 1;"}) {
                x.feed(5, piece.charAt(0), piece.charAt(1), piece.charAt(2), piece.charAt(3), piece.charAt(4));
            }
            Due.due("8: text " + t, x.text(), t);
        }
        Due.due("8: six", x.count(5), 6);
        Due.due("8: full, of an empty tape", x.text(), -4);
        x.feed(5, '?', '?', '?', '?', '?');
        Due.due("8: full ahead of the fault", x.text(), -4);
        Due.due("8: the tape stays", x.count(7), 5);
        Due.due("8: and has what room it had", x.feed(1, 32, 0, 0, 0, 0), 6);
        Due.due("8: six still", x.count(5), 6);
        Due.due("8: the last may be the law", x.force(5), 0);
        Due.due("8: but no seventh", x.force(6), -2);
    }

    /** 9: "A TEXT is THE LAW: which was. BAD." */
    private static void forces() {
        LighthouseLiedTo x = new LighthouseLiedTo();
        Due.due("9: itself", x.force(0), 0);
        Due.due("9: none yet", x.force(1), -2);
        Due.textOf(x, "shines 11;fades 12;fears 13;");
        for (int t : new int[] {-1, 2, 6, LEAST, MOST}) {
            Due.due("9: text " + t, x.force(t), -2);
        }
        Due.due("9: as it was", x.count(6), 0);
        Due.due("9: 1", x.force(1), 0);
        Due.due("9: 1 is the law", x.count(6), 1);
        Due.due("9: 2 is none", x.force(2), -2);
        Due.due("9: 1 still", x.asks(0, 0, -1), 11);
        Due.due("9: 1 again", x.force(1), 1);
        Due.due("9: back to 0", x.force(0), 1);
        Due.due("9: 0 is the law", x.asks(0, 0, -1), 50);
    }

    /** 10: "a SHIP (LOST or not; -1: none). -1000: none such." */
    private static void asks() {
        LighthouseLiedTo x = new LighthouseLiedTo();
        x.force(Due.textOf(x, "shines draught;fades draught - 1;fears column - draught;"));
        x.ship(0, 3598);
        x.ship(50, 7);
        for (int part : new int[] {-1, 3, LEAST, MOST}) {
            Due.due("10: part " + part, x.asks(part, 0, 0), -1000);
        }
        for (int c : NO_CELLS) {
            Due.due("10: cell " + c, x.asks(0, c, 0), -1000);
        }
        for (int s : new int[] {-2, 2, 6, LEAST, MOST}) {
            Due.due("10: ship " + s, x.asks(0, 0, s), -1000);
        }
        int[] none = {0, 0, 5};
        int[] first = {98, 97, -93};
        int[] second = {7, 6, -2};
        for (int lost = 0; lost < 2; lost++) {
            for (int part = 0; part < 3; part++) {
                Due.due("10: none, part " + part, x.asks(part, 35, -1), none[part]);
                Due.due("10: ship 0, part " + part, x.asks(part, 35, 0), first[part]);
                Due.due("10: ship 1, part " + part, x.asks(part, 35, 1), second[part]);
            }
            x.rock(35, 1);
            Due.due("10: ship 0 is lost", x.night(), lost == 0 ? 1 : 0);
        }
        Due.due("10: says what is below 0, which is no refusal", x.asks(2, 0, 0), -98);
    }

    /** 11: "kindMore: 10 times KIND, and MORE; cellDraught: 100 times the CELL, and DRAUGHT": BAD */
    private static void shipNumbers() {
        LighthouseLiedTo x = new LighthouseLiedTo();
        for (int wrong : new int[] {-1, 60, LEAST, MOST}) {
            Due.due("11: kindMore " + wrong, x.ship(wrong, 0), -2);
        }
        for (int wrong : new int[] {-1, 3600, LEAST, MOST}) {
            Due.due("11: cellDraught " + wrong, x.ship(0, wrong), -2);
        }
        Due.due("11: none came", x.count(0), 0);
        int[][] rows = {{0, 0, 0, 0, 0, 0}, {59, 3599, 35, 99, 5, 9}, {9, 99, 0, 99, 0, 9}, {10, 100, 1, 0, 1, 0},
            {50, 3500, 35, 0, 5, 0}, {49, 3499, 34, 99, 4, 9}};
        for (int s = 0; s < 6; s++) {
            Due.due("11: number", x.ship(rows[s][0], rows[s][1]), s);
            for (int what = 0; what < 4; what++) {
                Due.due("11: ship " + s + ", what " + what, x.told(s, what), rows[s][2 + what]);
            }
            Due.due("11: afloat as one comes", x.told(s, 4), 0);
        }
    }

    /** 11: "BAD; FULL." SHIPS: 6 at most, LOST ones among them */
    private static void shipFull() {
        LighthouseLiedTo x = new LighthouseLiedTo();
        for (int c = 0; c < 36; c++) {
            x.rock(c, 1);
        }
        for (int s = 0; s < 6; s++) {
            Due.due("11: number", x.ship(0, 0), s);
            x.night();
        }
        Due.due("11: none afloat", x.count(1), 0);
        Due.due("11: full for all that", x.ship(0, 0), -4);
        Due.due("11: BAD ahead of FULL", x.ship(60, 0), -2);
        Due.due("11: BAD ahead of FULL, cell", x.ship(0, 3600), -2);
        Due.due("11: six", x.count(0), 6);
    }

    /** 12: "Its CELL (what 0), DRAUGHT (1) becomes v: what it was. -5: no such SHIP; -7: what, v." */
    private static void puts() {
        LighthouseLiedTo x = new LighthouseLiedTo();
        Due.due("12: no ship yet", x.put(0, 0, 0), -5);
        x.ship(0, 1234);
        Due.due("12: cell 0", x.put(0, 0, 0), 12);
        Due.due("12: cell 35", x.put(0, 0, 35), 0);
        Due.due("12: draught 0", x.put(0, 1, 0), 34);
        Due.due("12: draught 99", x.put(0, 1, 99), 0);
        Due.due("12: draught 36, which is no cell", x.put(0, 1, 36), 99);
        String before = Seen.of(x);
        for (int s : new int[] {-1, 1, 6, LEAST, MOST}) {
            Due.due("12: ship " + s, x.put(s, 0, 0), -5);
            Due.due("12: ship " + s + " ahead of what", x.put(s, 2, 0), -5);
            Due.due("12: ship " + s + " ahead of v", x.put(s, 0, 36), -5);
        }
        for (int what : new int[] {-1, 2, LEAST, MOST}) {
            Due.due("12: what " + what, x.put(0, what, 0), -7);
        }
        for (int v : new int[] {-1, 36, 99, LEAST, MOST}) {
            Due.due("12: cell " + v, x.put(0, 0, v), -7);
        }
        for (int v : new int[] {-1, 100, LEAST, MOST}) {
            Due.due("12: draught " + v, x.put(0, 1, v), -7);
        }
        Due.holds("12: nothing is other", Seen.of(x).equals(before));
    }

    /** 13: "-5: no such SHIP; -7: what." */
    private static void tolds() {
        LighthouseLiedTo x = new LighthouseLiedTo();
        Due.due("13: no ship yet", x.told(0, 0), -5);
        x.ship(29, 1242);
        for (int s : new int[] {-1, 1, 6, LEAST, MOST}) {
            Due.due("13: ship " + s, x.told(s, 0), -5);
            Due.due("13: ship " + s + " ahead of what", x.told(s, 7), -5);
        }
        for (int what : new int[] {-1, 7, LEAST, MOST}) {
            Due.due("13: what " + what, x.told(0, what), -7);
        }
        int[] told = {12, 42, 2, 9, 0, 18, 1};
        for (int what = 0; what < 7; what++) {
            Due.due("13: what " + what, x.told(0, what), told[what]);
        }
    }

    /** 13: "5 to which CELL it would go now (LOST or not), 6 whether it SINKS on a ROCK now", LOST or not, too */
    private static void toldsOfTheLost() {
        LighthouseLiedTo x = new LighthouseLiedTo();
        x.ship(29, 1242);
        x.ship(40, 1201);
        x.rock(18, 1);
        Due.due("13: the barge is lost", x.night(), 1);
        int[] told = {18, 42, 2, 9, 1, 19, 1};
        for (int what = 0; what < 7; what++) {
            Due.due("13: what " + what + " of the lost one", x.told(0, what), told[what]);
        }
        x.put(0, 1, 9);
        Due.due("13: it would not sink", x.told(0, 6), 0);
        Due.due("13: lost all the same", x.told(0, 4), 1);
        Due.due("13: the raft would not sink in night 1", x.told(1, 6), 0);
        Due.due("13: afloat where no rock is", x.told(1, 4), 0);
    }

    /** "What is asked changes nothing", of promises 2, 5, 10, 13, 14, 40 */
    private static void changesNothing() {
        LighthouseLiedTo x = new LighthouseLiedTo();
        x.ship(0, 0);
        x.ship(29, 1242);
        x.rock(1, 1);
        x.tell(3, 70);
        String before = Seen.of(x);
        for (int k = -1; k < 9; k++) {
            x.count(k);
            x.believes(k);
            x.asks(k, 3, 1);
            x.asks(0, k, -1);
            x.told(0, k);
            x.told(1, k);
            x.told(k, 5);
            x.likes(1, k);
            x.taken(k, 0);
            x.taken(9, k);
        }
        Due.holds("nothing is other", Seen.of(x).equals(before));
    }
}
