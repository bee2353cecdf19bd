/** Promises 7 to 10: the tape, texts and their faults, the law, what it says. */
public final class TextTest {
    public static void main(String[] args) {
        feeds();
        texts();
        forces();
        values();
        bounds();
        names();
        faults();
        opens();
        Due.end();
    }

    /** 7 */
    private static void feeds() {
        LighthouseLiedTo x = new LighthouseLiedTo();
        Due.due("feed 0", x.feed(0, 1, 1, 1, 1, 1), -2);
        Due.due("feed 6", x.feed(6, 1, 1, 1, 1, 1), -2);
        for (int place = 0; place < 5; place++) {
            for (int v = -1; v < 257; v += 257) {
                int[] b = {0, 0, 0, 0, 0};
                b[place] = v;
                Due.due("feed " + v, x.feed(1, b[0], b[1], b[2], b[3], b[4]), -2);
            }
        }
        Due.due("none came", x.count(7), 0);
        Due.due("feed 1", x.feed(1, 255, 0, 0, 0, 0), 1);
        Due.due("feed 5", x.feed(5, 0, 255, 32, 10, 1), 6);
        for (int i = 0; i < 30; i++) {
            x.feed(5, 32, 32, 32, 32, 32);
        }
        Due.due("156 are there", x.count(7), 156);
        Due.due("no room", x.feed(5, 32, 32, 32, 32, 32), -4);
        Due.due("none of them came", x.count(7), 156);
        Due.due("room for 4", x.feed(4, 32, 32, 32, 32, 32), 160);
        Due.due("bad ahead of full", x.feed(1, 256, 0, 0, 0, 0), -2);
        Due.due("full", x.feed(1, 0, 0, 0, 0, 0), -4);
        Due.due("its first byte is the fault", x.text(), -100);
        Due.due("empty", x.count(7), 0);
        x = new LighthouseLiedTo();
        x.feed(5, 's', 'h', 'i', 'n', 'e');
        x.feed(2, 's', ' ', 0, 0, 0);
        x.feed(3, '1', ';', 'x', 0, 0);
        Due.due("bytes come in their order", x.text(), -109);
    }

    /** 8 */
    private static void texts() {
        LighthouseLiedTo x = new LighthouseLiedTo();
        String good = "shines 1;fades 2;fears 3;";
        for (int t = 1; t < 6; t++) {
            Due.due("a fault", Due.textOf(x, "shines ;"), -107);
            Due.due("tape after a fault", x.count(7), 0);
            Due.due("text " + t, Due.textOf(x, good), t);
            Due.due("tape after a text", x.count(7), 0);
            Due.due("texts", x.count(5), t + 1);
        }
        Due.fed(x, "shines ;");
        Due.due("full ahead of the fault", x.text(), -4);
        Due.due("tape stays", x.count(7), 8);
        Due.due("the law is as it was", x.count(6), 0);
    }

    /** 9 */
    private static void forces() {
        LighthouseLiedTo x = new LighthouseLiedTo();
        Due.due("force 1, not there", x.force(1), -2);
        Due.textOf(x, "shines 1;fades 2;fears 3;");
        Due.due("asks of the first", x.asks(0, 0, -1), 50);
        Due.due("force 1", x.force(1), 0);
        Due.due("asks of it", x.asks(0, 0, -1), 1);
        Due.due("fades", x.asks(1, 0, -1), 2);
        Due.due("fears", x.asks(2, 0, -1), 3);
        Due.due("force 2", x.force(2), -2);
        Due.due("force -1", x.force(-1), -2);
        Due.due("force 0", x.force(0), 1);
        Due.due("a faulty text is none", Due.textOf(x, "shines 9;fades 9;fears 9"), -124);
        Due.due("force 2 still", x.force(2), -2);
        Due.due("asks of the first again", x.asks(0, 0, -1), 50);
    }

    private static int said(String e) {
        LighthouseLiedTo x = new LighthouseLiedTo();
        int t = Due.textOf(x, "shines " + e + " ; fades 0 ; fears 0 ;");
        return t < 0 ? t : x.force(t) < 0 ? -9 : x.asks(0, 0, -1);
    }

    private static void says(String e, int want) {
        Due.due(e, said(e), want);
    }

    /** 10, of what an E is */
    private static void values() {
        says("7", 7);
        says("0007", 7);
        says("2+3*4", 14);
        says("(2+3)*4", 20);
        says("9-4-3", 2);
        says("-3*-4", 12);
        says("--5", 5);
        says("3--5", 8);
        says("3 - - -5", -2);
        says("1<2", 1);
        says("2<2", 0);
        says("2=2", 1);
        says("2=3", 0);
        says("1+1=2", 1);
        says("-1<0", 1);
        says("(1<2)<2", 1);
        says("3 or 0", 1);
        says("0 or 0", 0);
        says("0 or -2", 1);
        says("3 and 2", 1);
        says("3 and 0", 0);
        says("1 or 0 and 0", 1);
        says("0 and 0 or 2", 1);
        says("(1 or 0) and 0", 0);
        says("not 3", 0);
        says("not 0", 1);
        says("not not 7", 1);
        says("not 1 = 2", 1);
        says("not 0 and 0", 0);
        says("not 0 or 1 and 0", 1);
        says("0 and not 0", 0);
        says("5 or not 0", 1);
        says("(not 0)+1", 2);
        says("(5)", 5);
        says("-(5+1)", -6);
        says("1\n+\n2", 3);
        says("9999*9999*9999*9999*0+9", 9);
        // 2^31 is the least int, of which the negative is itself.
        says("2048*1024*1024<0", 1);
        says("-(2048*1024*1024)<0", 1);
        says("4096*1024*1024+3", 3);
    }

    private static void bounds() {
        says("99", 99);
        says("100", 99);
        says("-99", -99);
        says("-100", -99);
        LighthouseLiedTo x = new LighthouseLiedTo();
        x.force(Due.textOf(x, "shines 9999 ; fades 100 ; fears 100 ;"));
        Due.due("shines high", x.asks(0, 0, -1), 99);
        Due.due("fades high", x.asks(1, 0, -1), 99);
        Due.due("fears high", x.asks(2, 0, -1), 99);
        x.force(Due.textOf(x, "shines -9999 ; fades -1 ; fears -100 ;"));
        Due.due("shines low", x.asks(0, 0, -1), -99);
        Due.due("fades low", x.asks(1, 0, -1), 0);
        Due.due("fears low", x.asks(2, 0, -1), -99);
    }

    private static void names() {
        LighthouseLiedTo x = new LighthouseLiedTo();
        int first = Due.textOf(x, "shines belief ; fades column ; fears row ;");
        int second = Due.textOf(x, "shines night ; fades doubt ; fears draught ;");
        x.ship(50, 3567);
        x.ship(0, 1207);
        x.night();
        x.night();
        x.tell(23, 44);
        x.doubts(31);
        x.force(first);
        Due.due("belief", x.asks(0, 23, -1), 44);
        Due.due("column", x.asks(1, 23, -1), 5);
        Due.due("row", x.asks(2, 23, -1), 3);
        x.force(second);
        Due.due("night", x.asks(0, 0, -1), 2);
        Due.due("doubt", x.asks(1, 0, -1), 31);
        Due.due("draught of none", x.asks(2, 0, -1), 0);
        Due.due("draught of 0", x.asks(2, 0, 0), 67);
        Due.due("draught of 1", x.asks(2, 0, 1), 7);
        x.force(Due.textOf(x, "shines 0;fades draught;fears 0;"));
        Due.due("draught of 1 for fades, asked", x.asks(1, 0, 1), 7);
        Due.due("0 is a number", x.asks(0, 0, 1), 0);
        x.night();
        Due.due("draught of none for fades, in a night", x.believes(23), 44);
        x.force(Due.textOf(x, "shines draught=0 and column = 2 ;fades 0;fears 0;"));
        Due.due("no ship for the brightest ones", x.sea(1), Due.bits(2, 8, 14, 20, 26, 32));
    }

    private static void fault(String text, int place) {
        LighthouseLiedTo x = new LighthouseLiedTo();
        Due.due("'" + text + "'", Due.textOf(x, text), place < 0 ? 1 : -100 - place);
    }

    /** 8, of faults */
    private static void faults() {
        fault("", 0);
        fault("  ", 2);
        fault(" \n x", 3);
        fault("shines", 6);
        fault("shines ", 7);
        fault("fades 1;", 0);
        fault("shine 1;", 0);
        fault("shiness 1;", 0);
        fault("shines1;fades1;fears1;", -1);
        fault("shines 1;fades 1;fears 1;\n", -1);
        fault("shines 1;fades 1;fears 1", 24);
        fault("shines 1;fades 1;fears 1 ", 25);
        fault("shines 1;fades 1;fears 1;;", 25);
        fault("shines 1;fades 1;fears 1; 1", 26);
        fault("shines 1;fears 1;fades 1;", 9);
        fault("shines 1 fades 1;", 9);
        fault("shines ;", 7);
        fault("shines shines;", 7);
        fault("shines 1 2;", 9);
        fault("shines column2;", 13);
        fault("shines 2column;", 8);
        fault("shines 12345;", 7);
        fault("shines 00001;", 7);
        fault("shines 1+00001;", 9);
        fault("shines 9999;fades", 17);
        fault("shines Row;", 7);
        fault("shines rows;", 7);
        fault("shines r ow;", 7);
        fault("shines 1 & 2;", 9);
        fault("shines 1\t;", 8);
        fault("shines 1\r;", 8);
        fault("shines 1" + (char) 233 + ";", 8);
        fault("shines 1" + (char) 0 + ";", 8);
        fault("shines 1 or;", 11);
        fault("shines 1 and or 2;", 13);
        fault("shines 1 < 2 < 3;", 13);
        fault("shines 1 < 2 = 3;", 13);
        fault("shines 1 = 2 < 3;", 13);
        fault("shines 1 + not 2;", 11);
        fault("shines 1 < not 2;", 11);
        fault("shines - not 2;", 9);
        fault("shines not;", 10);
        fault("shines not - ;", 13);
        fault("shines + 1;", 7);
        fault("shines 1 * * 2;", 11);
        fault("shines (1;", 9);
        fault("shines ();", 8);
        fault("shines 1);", 8);
        fault("shines (1 2);", 10);
        fault("shines (1", 9);
        fault("shines 1 not 2;", 9);
        fault("shines 1 shines fades 1;fears 1;", 9);
        fault("shines 1;fades 1;fears 1;fears", 25);
        fault("shines 1;fades 1;fears 1;~", 25);
        fault("shines rowz;", 7);
        fault("shines xow;", 7);
        fault("shines rox;", 7);
        full();
        before();
        fault("shines 1 (2);", 9);
    }

    /** A text of all the 160 bytes. */
    private static void full() {
        String text = "shines 1;fades 2;fears 0";
        StringBuilder s = new StringBuilder(text);
        while (s.length() < 157) {
            s.append("+1");
        }
        while (s.length() < 159) {
            s.append(' ');
        }
        LighthouseLiedTo x = new LighthouseLiedTo();
        Due.due("160 bytes", Due.fed(x, s.append(';').toString()), 160);
        Due.due("a text", x.text(), 1);
        x.force(1);
        Due.due("all of it", x.asks(2, 0, -1), 67);
        Due.fed(x, s.toString().replace(';', ' '));
        Due.due("a fault in its first stop", x.text(), -109);
        for (int i = 0; i < 32; i++) {
            x.feed(5, ' ', ' ', ' ', ' ', ' ');
        }
        Due.due("ends too early", x.text(), -260);
    }

    /** What stood on the tape before is none of it. */
    private static void before() {
        LighthouseLiedTo x = new LighthouseLiedTo();
        Due.due("digits", Due.textOf(x, "11111111111111111111111111111111"), -100);
        Due.due("one digit", Due.textOf(x, "shines 1"), -108);
        Due.due("letters", Due.textOf(x, "rowwwwwwwwwwwwwwwwwwwwwwwwww"), -100);
        Due.due("a name", Due.textOf(x, "shines row"), -110);
        Due.due("blanks", Due.textOf(x, "                            "), -128);
        Due.due("ends", Due.textOf(x, "shines "), -107);
    }

    private static void opens() {
        says("(((((1)))))", 1);
        says("((((((1))))))", -112);
        says("-----1", -1);
        says("------1", -112);
        says("not not not not not 1", 0);
        says("not not not not not not 1", -127);
        says("not (-(-1))", 0);
        says("not (-(-(1)))", -115);
        says("not (-(-((1))))", -115);
        says("not (-(--(1)))", -115);
        says("not (-(-(-1)))", -115);
        // What is closed makes room again; a - between two opens nothing.
        says("(((((1))))) + (((((1)))))", 2);
        says("(((((1 - 1 - 1)))))", -1);
        says("(((((1) - -1))))", 2);
        says("-----1 + -----1", -2);
        says("not not not not not 1 or not not not not not 0", 1);
        says("((((not 1 or not 1))))", 0);
        says("(((((not 1)))))", -112);
        says("(((((-1)))))", -112);
        says("(((((1*-1)))))", -114);
    }
}
