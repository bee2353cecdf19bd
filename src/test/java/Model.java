import java.math.BigInteger;
import java.util.ArrayList;
import java.util.Arrays;
import java.util.List;
import java.util.function.IntPredicate;
import java.util.function.ToIntFunction;
import java.util.regex.Matcher;
import java.util.regex.Pattern;

/**
 * The document once more, by another way than the class: kinds as classes, texts as trees, thoughts as deep copies.
 * What it is slow or lavish in does not matter; what differs from the class tells a slip in one of them.
 */
public final class Model {
    private static final long NO = -4611686018427387904L;

    /** What an E is asked of. */
    private record Asked(State sea, int cell, int draught) {
    }

    private static final class Fault extends RuntimeException {
        private static final long serialVersionUID = 1L;
        final int place;

        Fault(int place) {
            this.place = place;
        }
    }

    // ---- texts

    private static final class Grammar {
        private static final Pattern TOKEN = Pattern.compile("[ \n]*([a-z]+|[0-9]+|[();+\\-*<=]|$)");
        private static final List<String> KEYS = List.of("shines", "fades", "fears", "or", "and", "not");
        private static final List<String> NAMES = List.of("belief", "column", "row", "night", "doubt", "draught");
        private final String tape;
        private int behind = 0;
        private int start;
        private String token;
        private int open = 0;

        Grammar(String tape) {
            this.tape = tape;
            next();
        }

        /** The token ahead; one that is none is kept as "?", which stands nowhere. */
        private void next() {
            Matcher m = TOKEN.matcher(tape).region(behind, tape.length());
            if (m.lookingAt()) {
                start = m.start(1);
                behind = m.end(1);
                token = m.group(1);
                boolean word = token.matches("[a-z]+");
                if (word && !KEYS.contains(token) && !NAMES.contains(token) || token.matches("[0-9]{5,}")) {
                    token = "?";
                }
                return;
            }
            start = behind;
            while (tape.charAt(start) == ' ' || tape.charAt(start) == '\n') {
                start++;
            }
            token = "?";
        }

        private Fault fault() {
            return new Fault(start);
        }

        private void must(String wanted) {
            if (!token.equals(wanted)) {
                throw fault();
            }
            if (!wanted.isEmpty()) {
                next();
            }
        }

        private boolean takes(String wanted) {
            if (token.equals(wanted)) {
                next();
                return true;
            }
            return false;
        }

        private void opened() {
            if (open == 5) {
                throw fault();
            }
            open++;
            next();
        }

        List<ToIntFunction<Asked>> text() {
            List<ToIntFunction<Asked>> parts = new ArrayList<>();
            for (String key : List.of("shines", "fades", "fears")) {
                must(key);
                parts.add(e());
                must(";");
            }
            must("");
            return parts;
        }

        private ToIntFunction<Asked> e() {
            ToIntFunction<Asked> left = and();
            while (takes("or")) {
                ToIntFunction<Asked> one = left;
                ToIntFunction<Asked> two = and();
                left = a -> truth(one.applyAsInt(a) != 0 | two.applyAsInt(a) != 0);
            }
            return left;
        }

        private ToIntFunction<Asked> and() {
            ToIntFunction<Asked> left = not();
            while (takes("and")) {
                ToIntFunction<Asked> one = left;
                ToIntFunction<Asked> two = not();
                left = a -> truth(one.applyAsInt(a) != 0 & two.applyAsInt(a) != 0);
            }
            return left;
        }

        private ToIntFunction<Asked> not() {
            if (token.equals("not")) {
                opened();
                ToIntFunction<Asked> of = not();
                open--;
                return a -> truth(of.applyAsInt(a) == 0);
            }
            ToIntFunction<Asked> left = sum();
            if (takes("<")) {
                ToIntFunction<Asked> right = sum();
                return a -> truth(left.applyAsInt(a) < right.applyAsInt(a));
            }
            if (takes("=")) {
                ToIntFunction<Asked> right = sum();
                return a -> truth(left.applyAsInt(a) == right.applyAsInt(a));
            }
            return left;
        }

        private ToIntFunction<Asked> sum() {
            ToIntFunction<Asked> left = term();
            while (token.equals("+") || token.equals("-")) {
                int by = token.equals("+") ? 1 : -1;
                next();
                ToIntFunction<Asked> one = left;
                ToIntFunction<Asked> two = term();
                left = a -> one.applyAsInt(a) + by * two.applyAsInt(a);
            }
            return left;
        }

        private ToIntFunction<Asked> term() {
            ToIntFunction<Asked> left = one();
            while (takes("*")) {
                ToIntFunction<Asked> one = left;
                ToIntFunction<Asked> two = one();
                left = a -> (int) ((long) one.applyAsInt(a) * two.applyAsInt(a));
            }
            return left;
        }

        private ToIntFunction<Asked> one() {
            if (token.equals("(")) {
                opened();
                ToIntFunction<Asked> inside = e();
                must(")");
                open--;
                return inside;
            }
            if (token.equals("-")) {
                opened();
                ToIntFunction<Asked> of = one();
                open--;
                return a -> 0 - of.applyAsInt(a);
            }
            if (token.matches("[0-9]+")) {
                int number = Integer.parseInt(token);
                next();
                return a -> number;
            }
            if (!NAMES.contains(token)) {
                throw fault();
            }
            String name = token;
            next();
            return a -> named(name, a);
        }

        private static int truth(boolean is) {
            return is ? 1 : 0;
        }

        private static int named(String name, Asked a) {
            return switch (name) {
                case "belief" -> a.sea.belief[a.cell];
                case "column" -> a.cell % 6;
                case "row" -> a.cell / 6;
                case "night" -> a.sea.night;
                case "doubt" -> a.sea.doubt;
                default -> a.draught;
            };
        }
    }

    // ---- ships

    private static class Ship {
        int kind;
        int more;
        int cell;
        int draught;
        boolean lost;

        static Ship of(int kind) {
            Ship ship = switch (kind) {
                case 0 -> new Ship();
                case 1 -> new Post();
                case 2 -> new Barge();
                case 3 -> new Wrecker();
                case 4 -> new Raft();
                default -> new Ghost();
            };
            ship.kind = kind;
            return ship;
        }

        Ship as(int newKind) {
            Ship ship = of(newKind);
            ship.more = more;
            ship.cell = cell;
            ship.draught = draught;
            ship.lost = lost;
            return ship;
        }

        int likes(State sea, int c) {
            return sea.says(0, c, draught);
        }

        boolean sinks(State sea) {
            return true;
        }

        int teaches() {
            return 99;
        }

        int next(State sea) {
            List<Integer> beside = new ArrayList<>();
            int column = cell % 6;
            int row = cell / 6;
            int[][] ways = {{column + 1, row}, {column - 1, row}, {column, row + 1}, {column, row - 1}};
            for (int[] way : ways) {
                if (way[0] >= 0 && way[0] < 6 && way[1] >= 0 && way[1] < 6) {
                    beside.add(way[0] + 6 * way[1]);
                }
            }
            int most = beside.stream().mapToInt(c -> likes(sea, c)).max().orElseThrow();
            if (most <= likes(sea, cell)) {
                return cell;
            }
            return beside.stream().filter(c -> likes(sea, c) == most).findFirst().orElseThrow();
        }
    }

    private static class Post extends Ship {
        @Override
        int likes(State sea, int c) {
            return super.likes(sea, c) - sea.says(2, c, draught);
        }

        @Override
        int teaches() {
            return super.teaches() / 2;
        }
    }

    private static class Barge extends Ship {
        @Override
        int likes(State sea, int c) {
            return super.likes(sea, c) + (c / 6 == more % 6 ? 20 : 0);
        }

        @Override
        boolean sinks(State sea) {
            return draught > more;
        }
    }

    private static class Wrecker extends Post {
        @Override
        int likes(State sea, int c) {
            return 0 - super.likes(sea, c);
        }

        @Override
        int teaches() {
            return 0;
        }
    }

    private static class Raft extends Barge {
        @Override
        int likes(State sea, int c) {
            return super.likes(sea, c) / 10;
        }

        @Override
        boolean sinks(State sea) {
            return sea.night % 5 == 0 && super.sinks(sea);
        }
    }

    private static class Ghost extends Ship {
        @Override
        int likes(State sea, int c) {
            return c == more * 4 % 36 ? 99 : sea.says(2, c, draught);
        }

        @Override
        boolean sinks(State sea) {
            return false;
        }
    }

    // ---- what an image keeps

    private static final class State {
        boolean[] rock = new boolean[36];
        int[] belief = new int[36];
        int doubt;
        int night;
        List<Ship> ships = new ArrayList<>();
        int law;
        final List<List<ToIntFunction<Asked>>> texts;

        State(List<List<ToIntFunction<Asked>>> texts) {
            this.texts = texts;
        }

        State copied() {
            State s = new State(texts);
            s.rock = rock.clone();
            s.belief = belief.clone();
            s.doubt = doubt;
            s.night = night;
            s.law = law;
            for (Ship ship : ships) {
                s.ships.add(ship.as(ship.kind));
            }
            return s;
        }

        int says(int part, int c, int draught) {
            int worth = texts.get(law).get(part).applyAsInt(new Asked(this, c, draught));
            int least = part == 1 ? 0 : -99;
            return worth < least ? least : worth > 99 ? 99 : worth;
        }

        void told(int c, int v) {
            int less = Math.abs(v) / (1 + doubt / 10);
            int belief1 = belief[c] + (v < 0 ? -less : less);
            belief[c] = belief1 < 0 ? 0 : belief1 > 99 ? 99 : belief1;
        }

        int night() {
            int lostNow = 0;
            for (int s = 0; s < ships.size(); s++) {
                Ship ship = ships.get(s);
                if (ship.lost) {
                    continue;
                }
                ship.cell = ship.next(this);
                if (rock[ship.cell] && ship.sinks(this)) {
                    ship.lost = true;
                    lostNow |= 1 << s;
                    doubt += belief[ship.cell] < 50 && doubt < 99 ? 1 : 0;
                    belief[ship.cell] = Math.max(belief[ship.cell], ship.teaches());
                }
            }
            for (int c = 0; c < 36; c++) {
                belief[c] = Math.max(0, belief[c] - says(1, c, 0));
            }
            night++;
            return lostNow;
        }

        int lostIn(int n) {
            int all = 0;
            for (int i = 0; i < n; i++) {
                all |= night();
            }
            return Integer.bitCount(all);
        }

        int afloat() {
            int bits = 0;
            for (int s = 0; s < ships.size(); s++) {
                bits |= ships.get(s).lost ? 0 : 1 << s;
            }
            return bits;
        }

        int sum(IntPredicate of) {
            int sum = 0;
            for (int c = 0; c < 36; c++) {
                sum += of.test(c) ? belief[c] : 0;
            }
            return sum;
        }
    }

    private final List<List<ToIntFunction<Asked>>> texts = new ArrayList<>();
    private State now = new State(texts);
    private State image = null;
    private String tape = "";
    private final Object[] sheets = new Object[4];

    public Model() {
        texts.add(new Grammar("shines 50 + column + row - belief ; fades 3 ; fears belief ;").text());
    }

    private boolean ship(int s) {
        return s >= 0 && s < now.ships.size();
    }

    private static boolean in(int v, int from, int to) {
        return from <= v && v <= to;
    }

    private static long cells(IntPredicate of) {
        long bits = 0;
        for (int i = 0; i < 36; i++) {
            bits |= of.test(i) ? 1L << i : 0;
        }
        return bits;
    }

    public int count(int what) {
        return switch (what) {
            case 0 -> now.ships.size();
            case 1 -> (int) now.ships.stream().filter(s -> !s.lost).count();
            case 2 -> now.night;
            case 3 -> now.doubt;
            case 4 -> Long.bitCount(sea(0));
            case 5 -> texts.size();
            case 6 -> now.law;
            case 7 -> tape.length();
            default -> -2;
        };
    }

    public int rock(int c, int is) {
        if (!in(c, 0, 35) || !in(is, 0, 1)) {
            return in(c, 0, 35) ? -7 : -5;
        }
        boolean was = now.rock[c];
        now.rock[c] = is == 1;
        return was ? 1 : 0;
    }

    public int tell(int c, int v) {
        if (!in(c, 0, 35) || !in(v, -99, 99)) {
            return in(c, 0, 35) ? -7 : -5;
        }
        now.told(c, v);
        return now.belief[c];
    }

    public int believes(int c) {
        return in(c, 0, 35) ? now.belief[c] : -5;
    }

    public int doubts(int v) {
        int was = now.doubt;
        now.doubt = in(v, 0, 99) ? v : was;
        return in(v, 0, 99) ? was : -2;
    }

    public int feed(int n, int a, int b, int c, int d, int e) {
        int[] bytes = {a, b, c, d, e};
        if (!in(n, 1, 5) || !Arrays.stream(bytes).allMatch(v -> in(v, 0, 255))) {
            return -2;
        }
        if (tape.length() + n > 160) {
            return -4;
        }
        for (int i = 0; i < n; i++) {
            tape += (char) bytes[i];
        }
        return tape.length();
    }

    public int text() {
        if (texts.size() == 6) {
            return -4;
        }
        String read = tape;
        tape = "";
        try {
            texts.add(new Grammar(read).text());
            return texts.size() - 1;
        } catch (Fault f) {
            return -100 - f.place;
        }
    }

    public int force(int t) {
        if (!in(t, 0, texts.size() - 1)) {
            return -2;
        }
        int was = now.law;
        now.law = t;
        return was;
    }

    public int asks(int part, int c, int s) {
        if (!in(part, 0, 2) || !in(c, 0, 35) || s != -1 && !ship(s)) {
            return -1000;
        }
        return now.says(part, c, s == -1 ? 0 : now.ships.get(s).draught);
    }

    public int ship(int kindMore, int cellDraught) {
        if (!in(kindMore, 0, 59) || !in(cellDraught, 0, 3599)) {
            return -2;
        }
        if (now.ships.size() == 6) {
            return -4;
        }
        Ship ship = Ship.of(kindMore / 10);
        ship.more = kindMore % 10;
        ship.cell = cellDraught / 100;
        ship.draught = cellDraught % 100;
        now.ships.add(ship);
        return now.ships.size() - 1;
    }

    public int put(int s, int what, int v) {
        if (!ship(s)) {
            return -5;
        }
        Ship ship = now.ships.get(s);
        int was = what == 0 ? ship.cell : ship.draught;
        if (what == 0 && in(v, 0, 35)) {
            ship.cell = v;
            return was;
        }
        if (what == 1 && in(v, 0, 99)) {
            ship.draught = v;
            return was;
        }
        return -7;
    }

    public int told(int s, int what) {
        if (!ship(s)) {
            return -5;
        }
        Ship ship = now.ships.get(s);
        return switch (what) {
            case 0 -> ship.cell;
            case 1 -> ship.draught;
            case 2 -> ship.kind;
            case 3 -> ship.more;
            case 4 -> ship.lost ? 1 : 0;
            case 5 -> ship.next(now);
            case 6 -> ship.sinks(now) ? 1 : 0;
            default -> -7;
        };
    }

    public int likes(int s, int c) {
        return ship(s) && in(c, 0, 35) ? now.ships.get(s).likes(now, c) : -100000;
    }

    public int night() {
        return now.night == 999 ? -3 : now.night();
    }

    public int run(int n, int what) {
        if (!in(n, 0, 40)) {
            return -2;
        }
        State then = now.copied();
        then.lostIn(n);
        if (in(what, 20, 55)) {
            return then.belief[what - 20];
        }
        if (in(what, 10, 15)) {
            return ship(what - 10) ? then.ships.get(what - 10).cell : -2;
        }
        return what == 0 ? then.afloat() : what == 1 ? then.sum(c -> true) : what == 2 ? then.doubt : -2;
    }

    public int lostBy(int s, int what) {
        if (!ship(s)) {
            return -5;
        }
        if (what != 0 && what != 1) {
            return -7;
        }
        if (now.ships.get(s).lost) {
            return -3;
        }
        State then = now.copied();
        int n = 0;
        while (n < 40 && !then.ships.get(s).lost) {
            then.night();
            n++;
        }
        return !then.ships.get(s).lost ? -1 : what == 0 ? n : then.ships.get(s).cell;
    }

    public long track(int s, int n) {
        if (!ship(s) || !in(n, 0, 40)) {
            return NO;
        }
        List<Integer> been = new ArrayList<>();
        for (int i = 0; i <= n; i++) {
            State then = now.copied();
            then.lostIn(i);
            been.add(then.ships.get(s).cell);
        }
        return cells(been::contains);
    }

    public long sea(int what) {
        int most = Integer.MIN_VALUE;
        for (int c = 0; c < 36; c++) {
            most = Math.max(most, now.says(0, c, 0));
        }
        int brightest = most;
        return switch (what) {
            case 0 -> cells(c -> now.rock[c]);
            case 1 -> cells(c -> now.says(0, c, 0) == brightest);
            case 2 -> cells(c -> !now.rock[c] && now.belief[c] >= 50);
            case 3 -> cells(c -> now.rock[c] && now.belief[c] < 50);
            default -> NO;
        };
    }

    /** The first of the least of 36, if less than as it is: losses by each of which some are none (-1). */
    private static int least(int asItIs, int[] losses, int what) {
        int best = -1;
        int fewest = asItIs;
        for (int c = 35; c >= 0; c--) {
            if (losses[c] != -1 && losses[c] < asItIs && losses[c] <= fewest) {
                best = c;
                fewest = losses[c];
            }
        }
        return what == 0 ? best : fewest;
    }

    public int lie(int v, int n, int what) {
        if (!in(v, -99, 99) || !in(n, 0, 20) || !in(what, 0, 1)) {
            return -2;
        }
        int[] losses = new int[36];
        for (int c = 0; c < 36; c++) {
            State then = now.copied();
            then.told(c, v);
            losses[c] = then.lostIn(n);
        }
        return least(now.copied().lostIn(n), losses, what);
    }

    public int blow(int n, int what) {
        if (!in(n, 0, 20) || !in(what, 0, 1)) {
            return -2;
        }
        int[] losses = new int[36];
        for (int c = 0; c < 36; c++) {
            State then = now.copied();
            then.rock[c] = false;
            losses[c] = now.rock[c] ? then.lostIn(n) : -1;
        }
        return least(now.copied().lostIn(n), losses, what);
    }

    public long safe(int s, int n) {
        if (!ship(s) || !in(n, 0, 20) || now.ships.get(s).lost) {
            return NO;
        }
        return cells(c -> {
            State then = now.copied();
            then.ships.get(s).cell = c;
            then.lostIn(n);
            return !then.ships.get(s).lost;
        });
    }

    public int trust(int c, int v, int n) {
        if (!in(c, 0, 35)) {
            return -5;
        }
        if (!in(v, -99, 99) || !in(n, 0, 10)) {
            return -7;
        }
        for (int d = 0; d < 10; d++) {
            State then = now.copied();
            then.doubt = 10 * d;
            then.told(c, v);
            if (then.lostIn(n) == 0) {
                return 10 * d;
            }
        }
        return -1;
    }

    private static long lowest(int above, int below, int part) {
        if (below == 0 || !in(part, 0, 1)) {
            return NO;
        }
        int divisor = BigInteger.valueOf(above).gcd(BigInteger.valueOf(below)).intValue();
        return (part == 0 ? above : below) / divisor;
    }

    public long truth(int part) {
        return lowest(now.sum(c -> now.rock[c]), now.sum(c -> true), part);
    }

    // ---- told nights

    private static int[] numbers(Object sheet) {
        if (sheet instanceof byte[] b) {
            int[] all = new int[b.length];
            Arrays.setAll(all, i -> b[i]);
            return all;
        }
        if (sheet instanceof short[] h) {
            int[] all = new int[h.length];
            Arrays.setAll(all, i -> h[i]);
            return all;
        }
        return (int[]) sheet;
    }

    private int refused(int q, int s) {
        if (!in(q, 0, 3)) {
            return -2;
        }
        if (sheets[q] == null) {
            return -11;
        }
        return numbers(sheets[q]).length > 20 ? -2 : ship(s) ? 0 : -5;
    }

    private int otherwise(State then, int q, int s) {
        int[] told = numbers(sheets[q]);
        int first = -1;
        for (int i = 0; i < told.length; i++) {
            then.night();
            first = first == -1 && then.ships.get(s).cell != told[i] ? i : first;
        }
        return first;
    }

    public int judge(int q, int s) {
        return refused(q, s) != 0 ? refused(q, s) : otherwise(now.copied(), q, s);
    }

    public int kinds(int q, int s, int sort) {
        if (refused(q, s) != 0 || !in(sort, 0, 1)) {
            return refused(q, s) != 0 ? refused(q, s) : -7;
        }
        int bits = 0;
        for (int v = 0; v < (sort == 0 ? 6 : 10); v++) {
            State then = now.copied();
            if (sort == 0) {
                then.ships.set(s, then.ships.get(s).as(v));
            } else {
                then.ships.get(s).more = v;
            }
            bits |= otherwise(then, q, s) == -1 ? 1 << v : 0;
        }
        return bits;
    }

    public long places(int q, int s) {
        return refused(q, s) != 0 ? NO : cells(c -> {
            State then = now.copied();
            then.ships.get(s).cell = c;
            return otherwise(then, q, s) == -1;
        });
    }

    public int draughts(int q, int s, int what) {
        if (refused(q, s) != 0 || !in(what, 0, 1)) {
            return refused(q, s) != 0 ? refused(q, s) : -7;
        }
        List<Integer> good = new ArrayList<>();
        for (int d = 0; d < 100; d++) {
            State then = now.copied();
            then.ships.get(s).draught = d;
            if (otherwise(then, q, s) == -1) {
                good.add(d);
            }
        }
        return what == 0 ? good.size() : good.isEmpty() ? -1 : good.get(0);
    }

    public int whose(int q) {
        int refused = refused(q, 0);
        if (refused != 0 && refused != -5) {
            return refused;
        }
        int bits = 0;
        for (int s = 0; s < now.ships.size(); s++) {
            bits |= judge(q, s) == -1 ? 1 << s : 0;
        }
        return bits;
    }

    public int laws(int q, int s) {
        if (refused(q, s) != 0) {
            return refused(q, s);
        }
        int bits = 0;
        for (int t = 0; t < texts.size(); t++) {
            State then = now.copied();
            then.law = t;
            bits |= otherwise(then, q, s) == -1 ? 1 << t : 0;
        }
        return bits;
    }

    public int film(int q, int s, int n) {
        if (!in(q, 0, 3)) {
            return -2;
        }
        if (!ship(s) || !in(n, 0, 20)) {
            return ship(s) ? -7 : -5;
        }
        byte[] row = new byte[n];
        State then = now.copied();
        for (int i = 0; i < n; i++) {
            then.night();
            row[i] = (byte) then.ships.get(s).cell;
        }
        sheets[q] = row;
        return n;
    }

    // ---- tales by lots

    private State tale(int seed, int v) {
        State then = now.copied();
        BigInteger lot = BigInteger.valueOf(seed + 1);
        for (int i = 0; i < 6; i++) {
            lot = lot.multiply(BigInteger.valueOf(48271)).mod(BigInteger.valueOf(2147483647));
            then.told(lot.mod(BigInteger.valueOf(36)).intValue(), v);
            then.night();
        }
        return then;
    }

    private int lostBy(State then) {
        return Integer.bitCount(now.afloat()) - Integer.bitCount(then.afloat());
    }

    public int drawn(int seed, int v, int what) {
        if (!in(seed, 0, 99999) || !in(v, -99, 99) || !in(what, 0, 1)) {
            return -2;
        }
        return what == 0 ? lostBy(tale(seed, v)) : tale(seed, v).afloat();
    }

    public long odds(int seed, int seeds, int v, int most, int part) {
        if (!in(seed, 0, 99999) || !in(seeds, 1, 40) || !in(v, -99, 99) || !in(most, 0, 6)) {
            return NO;
        }
        int good = 0;
        for (int i = seed; i < seed + seeds; i++) {
            good += lostBy(tale(i, v)) <= most ? 1 : 0;
        }
        return lowest(good, seeds, part);
    }

    public int image() {
        image = now.copied();
        return now.ships.size();
    }

    public int back() {
        if (image == null) {
            return -3;
        }
        now = image.copied();
        return now.ships.size();
    }

    // ---- the host: rows of Java's own, and what Java throws for them

    public int sheet(int s, int sort, int n) {
        if (!in(s, 0, 3) || !in(sort, -1, 2) || sort != -1 && n > 40) {
            return -2;
        }
        try {
            sheets[s] = sort == -1 ? null : sort == 0 ? new byte[n] : sort == 1 ? new short[n] : (Object) new int[n];
            return 1;
        } catch (NegativeArraySizeException e) {
            return -14;
        }
    }

    public int cell(int s, int i, int v) {
        if (!in(s, 0, 3)) {
            return -2;
        }
        try {
            if (sheets[s] instanceof byte[] b) {
                b[i] = (byte) v;
            } else if (sheets[s] instanceof short[] h) {
                h[i] = (short) v;
            } else {
                ((int[]) sheets[s])[i] = v;
            }
            return 1;
        } catch (NullPointerException e) {
            return -11;
        } catch (ArrayIndexOutOfBoundsException e) {
            return -12;
        }
    }

    public int copy(int s, int i, int other, int j, int n) {
        if (!in(s, 0, 3) || !in(other, 0, 3)) {
            return -2;
        }
        try {
            System.arraycopy(sheets[s], i, sheets[other], j, n);
            return n;
        } catch (NullPointerException e) {
            return -11;
        } catch (ArrayStoreException e) {
            return -13;
        } catch (IndexOutOfBoundsException e) {
            return -12;
        }
    }

    public int shipsBy(int s, int sort, int from, int n) {
        if (!in(s, 0, 3) || !in(sort, 0, 2) || !in(n, 0, 6)) {
            return -2;
        }
        Object row = sheets[s];
        if (row == null) {
            return -11;
        }
        if (sort != (row instanceof byte[] ? 0 : row instanceof short[] ? 1 : 2)) {
            return -13;
        }
        int came = 0;
        int[] numbers = numbers(row);
        try {
            for (int k = 0; k < n; k++) {
                came += ship(numbers[from + 2 * k], numbers[from + 2 * k + 1]) >= 0 ? 1 : 0;
            }
            return came;
        } catch (ArrayIndexOutOfBoundsException e) {
            return -12;
        }
    }

    public int taken(int i, int kind) {
        if (!in(kind, 0, 6)) {
            return -2;
        }
        if (!in(i, 0, 41)) {
            return -12;
        }
        if (i > 5) {
            return kind == 6 ? now.belief[i - 6] : -13;
        }
        if (!ship(i)) {
            return -11;
        }
        Class<?>[] classes = {Ship.class, Post.class, Barge.class, Wrecker.class, Raft.class, Ghost.class};
        return kind < 6 && classes[kind].isInstance(now.ships.get(i)) ? i : -13;
    }
}
