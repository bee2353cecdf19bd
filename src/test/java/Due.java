/** What every test needs: to tell a call whose answer is not the one that is due. */
final class Due {
    private static int asked = 0;
    private static int wrong = 0;

    private Due() {
    }

    static void due(String call, long got, long want) {
        asked++;
        if (got != want) {
            wrong++;
            System.out.println(call + " answered " + got + ", due is " + want);
        }
    }

    static void holds(String what, boolean is) {
        due(what, is ? 1 : 0, 1);
    }

    static void end() {
        System.out.println(asked + " answers, " + wrong + " wrong");
        if (wrong != 0) {
            System.exit(1);
        }
    }

    /** Feeds a text (signs 0 to 255) and answers what text() answers. */
    static int textOf(LighthouseLiedTo x, String text) {
        fed(x, text);
        return x.text();
    }

    static int fed(LighthouseLiedTo x, String text) {
        int answer = 0;
        for (int i = 0; i < text.length(); i++) {
            answer = x.feed(1, text.charAt(i), 0, 0, 0, 0);
        }
        return answer;
    }

    /** A sheet of ints with these numbers. */
    static void told(LighthouseLiedTo x, int q, int... numbers) {
        x.sheet(q, 2, numbers.length);
        for (int i = 0; i < numbers.length; i++) {
            x.cell(q, i, numbers[i]);
        }
    }

    static long bits(int... cells) {
        long all = 0;
        for (int c : cells) {
            all |= 1L << c;
        }
        return all;
    }
}
