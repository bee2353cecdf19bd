/**
 * All of an object that can be asked for, as a text: what is alike before and behind calls was not changed by them.
 * It takes 125 calls at most, so that an object seen twice has some 260 left of its 512.
 */
final class Seen {
    private Seen() {
    }

    static String of(LighthouseLiedTo x) {
        StringBuilder s = new StringBuilder("rocks ").append(x.sea(0)).append(", counts");
        for (int what = 0; what < 8; what++) {
            s.append(' ').append(x.count(what));
        }
        s.append(", beliefs");
        for (int c = 0; c < 36; c++) {
            s.append(' ').append(x.believes(c));
        }
        s.append(", ships");
        for (int ship = 0; ship < x.count(0); ship++) {
            for (int what = 0; what < 5; what++) {
                s.append(' ').append(x.told(ship, what));
            }
        }
        s.append(", law");
        for (int part = 0; part < 3; part++) {
            s.append(' ').append(x.asks(part, 8, -1));
        }
        return s.append(", sheets").append(sheets(x)).toString();
    }

    /** Copies of no numbers change nothing, and tell which sheets are missing and which are of like sort. */
    private static String sheets(LighthouseLiedTo x) {
        StringBuilder s = new StringBuilder();
        for (int q = 0; q < 4; q++) {
            for (int other = q; other < 4; other++) {
                s.append(' ').append(x.copy(q, 0, other, 0, 0));
            }
            s.append(' ').append(size(x, q)).append(' ').append(x.places(q, 0));
        }
        return s.toString();
    }

    /** The place behind a sheet's last number is the last one from which no numbers can be copied. */
    private static int size(LighthouseLiedTo x, int q) {
        int least = -1;
        int above = 41;
        while (above - least > 1) {
            int half = (least + above) / 2;
            if (x.copy(q, half, q, half, 0) == 0) {
                least = half;
            } else {
                above = half;
            }
        }
        return least;
    }
}
