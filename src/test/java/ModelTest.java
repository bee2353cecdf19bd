import java.lang.reflect.Method;
import java.util.ArrayList;
import java.util.List;

/** All promises: long runs of calls, each asked of the class and of the model. */
public final class ModelTest {
    private static final int RUNS = 800, CALLS = 512, CALLS_OF_A_TEXT = 40;

    /** name, how often, and for each argument the least and the most that are as told. */
    private static final Object[][] CALLS_OF = {
        {"count", 2, 0, 7}, {"rock", 6, 0, 35, 0, 1}, {"tell", 6, 0, 35, -99, 99}, {"believes", 2, 0, 35},
        {"doubts", 1, 0, 99}, {"feed", 1, 1, 5, 0, 255, 0, 255, 0, 255, 0, 255, 0, 255}, {"text", 1},
        {"force", 3, 0, 5}, {"asks", 5, 0, 2, 0, 35, -1, 5}, {"ship", 5, 0, 59, 0, 3599}, {"put", 4, 0, 5, 0, 1, 0, 35},
        {"told", 6, 0, 5, 0, 6}, {"likes", 5, 0, 5, 0, 35}, {"night", 3}, {"run", 3, 0, 40, 0, 2},
        {"run", 3, 0, 40, 10, 15}, {"run", 3, 0, 40, 20, 55}, {"lostBy", 3, 0, 5, 0, 1}, {"track", 3, 0, 5, 0, 40},
        {"sea", 3, 0, 3}, {"lie", 3, -99, 99, 0, 20, 0, 1}, {"blow", 3, 0, 20, 0, 1}, {"safe", 2, 0, 5, 0, 20},
        {"trust", 3, 0, 35, -99, 99, 0, 10}, {"truth", 2, 0, 1}, {"judge", 4, 0, 3, 0, 5}, {"kinds", 3, 0, 3, 0, 5, 0, 1},
        {"places", 2, 0, 3, 0, 5}, {"draughts", 1, 0, 3, 0, 5, 0, 1}, {"whose", 2, 0, 3}, {"laws", 2, 0, 3, 0, 5},
        {"film", 5, 0, 3, 0, 5, 0, 20}, {"drawn", 3, 0, 99999, -99, 99, 0, 1},
        {"odds", 1, 0, 99999, 1, 40, -99, 99, 0, 6, 0, 1}, {"image", 1}, {"back", 1}, {"sheet", 1, 0, 3, -1, 2, 0, 40},
        {"sheet", 2, 0, 3, 0, 2, 0, 8}, {"cell", 3, 0, 3, 0, 20, 0, 35}, {"cell", 2, 0, 3, 0, 12, 0, 3599},
        {"copy", 4, 0, 3, 0, 8, 0, 3, 0, 8, 0, 8}, {"shipsBy", 3, 0, 3, 0, 2, 0, 8, 0, 6}, {"taken", 3, 0, 41, 0, 6},
        {"taken", 3, 0, 5, 0, 5}};

    private static final String[] ONES = {"belief", "column", "row", "night", "doubt", "draught", "0", "1", "2", "9",
        "30", "50", "99", "9999", "belief", "column", "row"};

    private static long state = 20261118L;
    private static int calls;

    public static void main(String[] args) throws Exception {
        Method[] real = new Method[CALLS_OF.length];
        Method[] model = new Method[CALLS_OF.length];
        List<Integer> choices = new ArrayList<>();
        for (int m = 0; m < CALLS_OF.length; m++) {
            real[m] = named(LighthouseLiedTo.class, (String) CALLS_OF[m][0]);
            model[m] = named(Model.class, (String) CALLS_OF[m][0]);
            for (int i = 0; i < (Integer) CALLS_OF[m][1]; i++) {
                choices.add(m);
            }
        }
        int texts = 0;
        for (int run = 0; run < RUNS; run++) {
            LighthouseLiedTo x = new LighthouseLiedTo();
            Model y = new Model();
            calls = 0;
            while (calls < CALLS) {
                if (lot(40) == 0 && calls + CALLS_OF_A_TEXT <= CALLS) {
                    texts += textOf(run, x, y);
                    continue;
                }
                int m = choices.get(lot(choices.size()));
                Object[] arguments = arguments(CALLS_OF[m], run % 4 == 0 ? 8 : 40);
                due(run, CALLS_OF[m][0], arguments, real[m].invoke(x, arguments), model[m].invoke(y, arguments));
            }
        }
        Due.holds("some texts were read: " + texts, texts > RUNS);
        Due.end();
    }

    private static Method named(Class<?> of, String name) {
        for (Method m : of.getDeclaredMethods()) {
            if (m.getName().equals(name) && java.lang.reflect.Modifier.isPublic(m.getModifiers())) {
                return m;
            }
        }
        throw new IllegalStateException(name);
    }

    private static void due(int run, Object name, Object[] arguments, Object got, Object want) {
        calls++;
        if (!got.equals(want)) {
            Due.due("run " + run + ": " + name + java.util.Arrays.toString(arguments),
                    ((Number) got).longValue(), ((Number) want).longValue());
        } else {
            Due.due("alike", 0, 0);
        }
    }

    private static int lot(int of) {
        state = state * 6364136223846793005L + 1442695040888963407L;
        return (int) ((state >>> 33) % of);
    }

    private static Object[] arguments(Object[] call, int oneInWrong) {
        Object[] all = new Object[(call.length - 2) / 2];
        for (int i = 0; i < all.length; i++) {
            int least = (Integer) call[2 + 2 * i];
            int most = (Integer) call[3 + 2 * i];
            if (lot(oneInWrong) == 0) {
                int[] wrong = {least - 1, most + 1, Integer.MIN_VALUE, Integer.MAX_VALUE, -1, 0, -lot(300), lot(5000)};
                all[i] = wrong[lot(wrong.length)];
            } else {
                all[i] = lot(6) == 0 ? lot(2) == 0 ? least : most : least + lot(most - least + 1);
            }
        }
        return all;
    }

    /** A text that is often right: fed to both, read by both; 1 if it was one. */
    private static int textOf(int run, LighthouseLiedTo x, Model y) {
        StringBuilder s = new StringBuilder("shines ");
        e(s, 3);
        s.append("; fades ").append(lot(2) == 0 ? "3" : "");
        if (s.charAt(s.length() - 1) == ' ') {
            e(s, 1);
        }
        s.append("; fears ");
        e(s, 2);
        s.append(';');
        if (lot(3) == 0) {
            spoil(s);
        }
        for (int i = 0; i < s.length(); i += 5) {
            int[] b = new int[5];
            int n = Math.min(5, s.length() - i);
            for (int k = 0; k < n; k++) {
                b[k] = s.charAt(i + k);
            }
            due(run, "feed", new Object[] {s}, x.feed(n, b[0], b[1], b[2], b[3], b[4]),
                    y.feed(n, b[0], b[1], b[2], b[3], b[4]));
        }
        int got = x.text();
        due(run, "text", new Object[] {s}, got, y.text());
        if (got > 0 && lot(2) == 0) {
            due(run, "force", new Object[] {got}, x.force(got), y.force(got));
        }
        return got > 0 ? 1 : 0;
    }

    private static void spoil(StringBuilder s) {
        String signs = "();+-*<= \n01a\tor not and - ( ~" + (char) 200;
        int at = lot(s.length());
        switch (lot(3)) {
            case 0: s.deleteCharAt(at); break;
            case 1: s.insert(at, signs.charAt(lot(signs.length()))); break;
            default: s.setCharAt(at, signs.charAt(lot(signs.length()))); break;
        }
    }

    private static void e(StringBuilder s, int depth) {
        int kind = depth == 0 ? 0 : lot(12);
        if (kind < 4) {
            s.append(ONES[lot(ONES.length)]);
        } else if (kind == 4) {
            s.append("not ");
            e(s, depth - 1);
        } else if (kind == 5) {
            s.append("-");
            e(s, depth - 1);
        } else if (kind == 6) {
            s.append("(");
            e(s, depth - 1);
            s.append(")");
        } else {
            e(s, depth - 1);
            String[] signs = {"+", "-", "*", "<", "=", " or ", " and ", " - ", " + ", "*"};
            s.append(signs[lot(signs.length)]);
            e(s, depth - 1);
        }
    }
}
