import java.util.ArrayList;
import java.util.List;

/** The bounds that "Terms" names for texts: a method for each sentence, which stands above it. */
public final class EdgeTextTest {
    public static void main(String[] args) {
        everyByte();
        blanks();
        asLongAsCanBe();
        fourDigits();
        keysAndNames();
        endsTooEarly();
        firstFaultOfSeveral();
        fiveOpen();
        openTillItEnds();
        minusBetweenOpensNothing();
        wraps();
        truths();
        bounds();
        theFirstText();
        comparesOnce();
        behindAFault();
        behindALongerTape();
        Due.end();
    }

    private static int read(String text) {
        return Due.textOf(new LighthouseLiedTo(), text);
    }

    /** What the text's first part says of cell 0, or its fault. */
    private static int said(String e) {
        LighthouseLiedTo x = new LighthouseLiedTo();
        int t = Due.textOf(x, "shines " + e + ";fades 0;fears 0;");
        return t < 0 ? t : x.force(t) == 0 ? x.asks(0, 0, -1) : -99999;
    }

    private static void says(String e, int want) {
        Due.due(e, said(e), want);
    }

    private static void fault(String text, int place) {
        Due.due("'" + text + "'", read(text), -100 - place);
    }

    private static void good(String text) {
        Due.due("'" + text + "'", read(text), 1);
    }

    /** "FAULT: ... also of a byte that begins none": each of the 256 behind a number. */
    private static void everyByte() {
        for (int b = 0; b < 256; b++) {
            String text = "shines 1" + (char) b + ";fades 1;fears 1;";
            if (b == ' ' || b == '\n' || b >= '0' && b <= '9') {
                good(text);
            } else if ("+-*<=;".indexOf(b) >= 0) {
                // That one may stand there, but the ; behind it may not.
                fault(text, 9);
            } else {
                fault(text, 8);
            }
        }
    }

    /** "blanks (32, 10) may stand between": none, one, many, ahead and behind, but not inside a TOKEN. */
    private static void blanks() {
        good("shines 1;fades 1;fears 1;");
        good("shines1;fades1;fears1;");
        good(" \n shines \n 1 \n ; \n fades 1 ; fears 1 ; \n ");
        good("shines-1;fades(1);fears not 1;");
        good("shines not(1);fades not\n1;fears 1and 1or 1;");
        fault("shi nes 1;fades 1;fears 1;", 0);
        fault("shines 1;fad\nes 1;fears 1;", 9);
        fault("shines be lief;", 7);
        fault("shines 1 1;", 9);
        fault("shines\t1;", 6);
        fault("shines\r1;", 6);
        fault("shines" + (char) 160 + "1;", 6);
        fault("shines" + (char) 0 + "1;", 6);
    }

    /** "TOKENS, each as long as can be: WORDS (as many letters ..), NUMBERS (as many digits ..)" */
    private static void asLongAsCanBe() {
        fault("shines notrow;", 7);
        fault("shines rownight;", 7);
        fault("shines not1androw;", 11);
        fault("shines 1or2and3or;", 17);
        fault("shines rowand;", 7);
        fault("shines 1row;", 8);
        fault("shines row1;", 10);
        fault("shinesrow;", 0);
        good("shines 1or 0and row;fades 1;fears 1;");
        good("shines 12;fades 1;fears 1;");
        fault("shines 1 2;", 9);
        Due.due("each sign alone", said("1--1"), 2);
        fault("shines 1==1;", 9);
        fault("shines 1<=1;", 9);
        fault("shines 1**1;", 9);
        fault("shines 1++1;", 9);
    }

    /** "NUMBERS (as many digits as stand there; more than 4 are too long)", "a NUMBER that is too long" */
    private static void fourDigits() {
        says("9999 = 10000 - 1", -100 - 14);
        says("9999 - 9900", 99);
        says("0099", 99);
        says("0000", 0);
        fault("shines 00000;", 7);
        fault("shines 00099;", 7);
        fault("shines 12345;", 7);
        fault("shines 1111111111111111111111111111111111111111;", 7);
        fault("shines 4294967297;", 7);
        fault("shines 1 + 12345;", 11);
        fault("shines 12345", 7);
        good("shines 1234;fades 1234;fears 1234;");
    }

    /** "a WORD that is neither KEY nor NAME"; a KEY where a NAME should be, and a NAME where a KEY should be */
    private static void keysAndNames() {
        for (String name : new String[] {"belief", "column", "row", "night", "doubt", "draught"}) {
            good("shines " + name + ";fades " + name + ";fears " + name + ";");
            fault(name + " 1;", 0);
            fault("shines " + name + "s;", 7);
            fault("shines " + name.substring(1) + ";", 7);
            fault("shines " + name.substring(0, name.length() - 1) + ";", 7);
            fault("shines 1 " + name + ";", 9);
            fault("shines " + name.substring(0, 1).toUpperCase() + name.substring(1) + ";", 7);
        }
        for (String key : new String[] {"shines", "fades", "fears", "or", "and"}) {
            fault("shines " + key + ";", 7);
            fault("shines 1 + " + key + ";", 11);
            fault("shines not " + key + ";", 11);
        }
        fault("shines 1;shines 1;fears 1;", 9);
        fault("fades 1;shines 1;fears 1;", 0);
        fault("shines 1;fears 1;fades 1;", 9);
        fault("shines 1;fades 1;fades 1;", 17);
        fault("shines 1;fades 1;fears 1;shines 1;", 25);
        fault("shines 1 nor 1;", 9);
        fault("shines 1 a;", 9);
    }

    /** "(the text's size, if it ends too early)": behind each of its tokens, with and without blanks there */
    private static void endsTooEarly() {
        String[] tokens = {"shines", "not", "(", "-", "1", "+", "row", "*", "2", "<", "3", ")", "and", "night", "or",
            "doubt", ";", "fades", "4", "=", "5", ";", "fears", "belief", ";"};
        StringBuilder s = new StringBuilder();
        for (String token : tokens) {
            fault(s.toString(), s.length());
            fault(s + "\n  ", s.length() + 3);
            s.append(token).append(' ');
        }
        good(s.toString());
        fault("", 0);
        fault(" ", 1);
        fault("shines 1;fades 1;fears 1", 24);
        StringBuilder full = new StringBuilder("shines 1");
        while (full.length() < 160) {
            full.append(full.length() == 159 ? ';' : ' ');
        }
        fault(full.toString(), 160);
    }

    /** "the place of the first byte of the first TOKEN that can't stand there": later ones don't matter */
    private static void firstFaultOfSeveral() {
        fault("shines 12345 ~ ;", 7);
        fault("shines 1 ~ 12345;", 9);
        fault("shines 1 2 3;", 9);
        fault("~ shines", 0);
        fault("shines ;;;", 7);
        fault("shines (1;~", 9);
        fault("shines foo bar", 7);
        fault("shines 1 foo", 9);
        fault("12345", 0);
        fault("(", 0);
        fault("not", 0);
        fault("shines 1;fades 2;fears 3; 12345", 26);
        fault("shines 1;fades 2;fears 3; not", 26);
    }

    /** All ways to open five, (, not, - ahead of a ONE: each is what may stand behind the one ahead. */
    private static void openers(String ahead, int left, boolean notMayStand, List<String> all) {
        if (left == 0) {
            all.add(ahead);
            return;
        }
        openers(ahead + "(", left - 1, true, all);
        openers(ahead + "-", left - 1, false, all);
        if (notMayStand) {
            openers(ahead + "not ", left - 1, true, all);
        }
    }

    /** "a ( , a not, a - ahead of a ONE while 5 of these are open" */
    private static void fiveOpen() {
        List<String> all = new ArrayList<>();
        openers("", 5, true, all);
        Due.holds("ways to open five: " + all.size(), all.size() == 144);
        for (String five : all) {
            StringBuilder closes = new StringBuilder();
            for (int i = 0; i < five.length(); i++) {
                closes.append(five.charAt(i) == '(' ? ")" : "");
            }
            good("shines " + five + "1" + closes + ";fades 1;fears 1;");
            fault("shines " + five + "(1)" + closes + ";fades 1;fears 1;", 7 + five.length());
            fault("shines " + five + "-1" + closes + ";fades 1;fears 1;", 7 + five.length());
            fault("shines " + five + "not 1" + closes + ";fades 1;fears 1;", 7 + five.length());
        }
    }

    /** "(a ( till its ) , not and - till what they belong to ends)" */
    private static void openTillItEnds() {
        String five = "(((((1)))))";
        String four = "((((1))))";
        says(five + "+" + five, 2);
        says("-1+" + five, 0);
        says("-1*" + five, -1);
        says("-1<" + five, 1);
        says("-" + four + "+" + five, 0);
        says("-" + five, -112);
        says("not 1 or " + five, 1);
        says("not 1 and " + five, 0);
        says("not 1 or not 1 or not 1 or not 1 or not 1 or not 1", 0);
        // What is compared belongs to the not, so that the not is open till behind it.
        says("not 1 < " + four, 1);
        says("not 1 < " + five, -100 - 19);
        says("not " + four + " = 1", 0);
        says("not 1 + " + five, -100 - 19);
        says("not " + five, -100 - 15);
        says("not 2 * " + four, 0);
        says("(1)+(1)+(1)+(1)+(1)+(1)+(1)", 7);
        says("((1)+(1)+(1)+(1)+(1)+(1)+(1))", 7);
        says("-1+-1+-1+-1+-1+-1+-1", -7);
        says("(((((1)+(1)))))", 2);
        says("(((((1+(1))))))", -100 - 14);
        // Each part of a text begins with none open.
        good("shines " + five + ";fades " + five + ";fears " + five + ";");
        fault("shines 1;fades (((((" + "(1)" + ")))));", 20);
        fault("shines 1;fades 1;fears -----(1);", 28);
    }

    /** "a - ahead of a ONE": one between two TERMS opens nothing */
    private static void minusBetweenOpensNothing() {
        says("(((((9 - 1)))))", 8);
        says("(((((9 - 1 - 1 - 1 - 1 - 1 - 1)))))", 3);
        says("9 - ----1", 8);
        says("9 - -----1", 10);
        says("9 - ------1", -100 - 16);
        says("9------1", 10);
        says("9-------1", -100 - 14);
    }

    /** "An E is an int (32 bits, wrapping)": each of + - * and - ONE beyond both ends */
    private static void wraps() {
        String least = "(2048*1024*1024)";
        String most = "(2048*1024*1024-1)";
        says(least + "<0", 1);
        says("0<" + most, 1);
        says(most + "+1=" + least, 1);
        says(most + "+1<0", 1);
        says(least + "-1=" + most, 1);
        says("0<" + least + "-1", 1);
        says("-" + least + "=" + least, 1);
        says("0-" + least + "=" + least, 1);
        says("-" + most + "-1=" + least, 1);
        says(least + "+" + least, 0);
        says(least + "*2", 0);
        says(most + "*2", -2);
        says(most + "*" + most, 1);
        says("4096*1024*1024", 0);
        says("4096*1024*1024+5", 5);
        // 999700029999 is above 232 times 2^32 by 3267617327, which is below 0 as an int.
        says("9999*9999*9999<0", 1);
        says(least + "<" + most, 1);
        says(most + "<" + least, 0);
        // No difference tells what is less, as that would wrap.
        says(least + "<1", 1);
        says("1<" + least, 0);
        says("-2<" + most, 1);
    }

    /** "of or, and, not, <, = 1 or 0 (what is not 0 is true)" */
    private static void truths() {
        int[] values = {-3, -1, 0, 1, 7};
        for (int a : values) {
            says("not " + a, a == 0 ? 1 : 0);
            says("not not " + a, a == 0 ? 0 : 1);
            for (int b : values) {
                says(a + " or " + b, a != 0 || b != 0 ? 1 : 0);
                says(a + " and " + b, a != 0 && b != 0 ? 1 : 0);
                says(a + "<" + b, a < b ? 1 : 0);
                says(a + "=" + b, a == b ? 1 : 0);
            }
        }
        says("(2 or 0)+(3 and 4)+(1<2)+(5=5)+(not 0)", 5);
    }

    /** "(shines, fears -99 .. 99, fades 0 .. 99, else the bound)" */
    private static void bounds() {
        int[] values = {-9999, -100, -99, -98, -1, 0, 1, 98, 99, 100, 9999};
        for (int v : values) {
            LighthouseLiedTo x = new LighthouseLiedTo();
            x.force(Due.textOf(x, "shines " + v + ";fades " + v + ";fears " + v + ";"));
            Due.due("shines " + v, x.asks(0, 0, -1), v < -99 ? -99 : v > 99 ? 99 : v);
            Due.due("fades " + v, x.asks(1, 0, -1), v < 0 ? 0 : v > 99 ? 99 : v);
            Due.due("fears " + v, x.asks(2, 0, -1), v < -99 ? -99 : v > 99 ? 99 : v);
        }
    }

    /** "TEXT 0, at first, and THE LAW: shines 50 + column + row - belief ; fades 3 ; fears belief ;" */
    private static void theFirstText() {
        for (int belief = 0; belief <= 99; belief += 33) {
            LighthouseLiedTo x = new LighthouseLiedTo();
            for (int c = 0; c < 36; c++) {
                x.tell(c, belief);
                Due.due("shines", x.asks(0, c, -1), 50 + c % 6 + c / 6 - belief);
                Due.due("fades", x.asks(1, c, -1), 3);
                Due.due("fears", x.asks(2, c, -1), belief);
            }
            Due.due("it is the law", x.count(6), 0);
            Due.due("it is the only one", x.count(5), 1);
        }
    }

    /** "NOT: not NOT, or SUM, perhaps < or = and a SUM": one, and no not behind it; "( E )" holds all of them */
    private static void comparesOnce() {
        fault("shines 1<2<3;", 10);
        fault("shines 1=2=3;", 10);
        fault("shines 1<2=3;", 10);
        fault("shines not 1<2<3;", 14);
        fault("shines 1<not 2;", 9);
        fault("shines 1+not 2;", 9);
        fault("shines 2*not 2;", 9);
        fault("shines -not 2;", 8);
        says("(1<2)<3", 1);
        says("1<(2<3)", 0);
        says("1<(not 0)+1", 1);
        says("(1 or 0 and 0)*3", 3);
        says("1<2 and 2<3 or 0", 1);
        says("not 2<1", 1);
        says("not 1=1 or 1=1", 1);
        says("2-1-1", 0);
        says("2*3-4*5", -14);
        says("-2*3", -6);
        says("2*-3", -6);
        says("-(2)*-(3)", 6);
    }

    /** 8: "(by a FAULT, too)": nothing of what was faulty is in the text that comes behind it */
    private static void behindAFault() {
        String[] faulty = {"shines 9+9;fades 9;fears (9", "shines 9;fades 9;fears 9;9", "shines not -(((9", "shines 9"};
        for (String text : faulty) {
            LighthouseLiedTo x = new LighthouseLiedTo();
            Due.holds("a fault: " + text, Due.textOf(x, text) <= -100);
            Due.due("8: a text", Due.textOf(x, "shines 1;fades 2;fears 3;"), 1);
            Due.due("8: the law", x.force(1), 0);
            for (int part = 0; part < 3; part++) {
                Due.due("8: as it says alone, part " + part, x.asks(part, 0, -1), part + 1);
            }
        }
    }

    /** 8: "THE TAPE .. is empty then": a WORD, a NUMBER at its end is not longer by what stood there before */
    private static void behindALongerTape() {
        LighthouseLiedTo x = new LighthouseLiedTo();
        Due.due("8: a longer name", Due.textOf(x, "shines row"), -110);
        Due.due("8: a shorter word", Due.textOf(x, "shines ro"), -107);
        Due.due("8: a longer number", Due.textOf(x, "shines 12345"), -107);
        Due.due("8: a shorter number", Due.textOf(x, "shines 1234"), -111);
        Due.due("8: a longer text", Due.textOf(x, "shines 1;fades 1;fears 1;"), 1);
        Due.due("8: a shorter text", Due.textOf(x, "shines 1;fades 1;fears 1"), -124);
        Due.due("8: a key alone", Due.textOf(x, "shine"), -100);
    }
}
