import java.io.IOException;
import java.lang.reflect.Field;
import java.lang.reflect.Method;
import java.lang.reflect.Modifier;
import java.nio.charset.StandardCharsets;
import java.nio.file.Files;
import java.nio.file.Path;
import java.util.ArrayList;
import java.util.Comparator;
import java.util.List;
import java.util.Map;
import java.util.Set;
import java.util.TreeMap;
import java.util.TreeSet;
import java.util.regex.Matcher;
import java.util.regex.Pattern;
import java.util.stream.Stream;

/** What README.md says is so: its commands and its example are run, its tables are compared with what is there. */
public final class ReadmeTest {
    private static final Pattern BLOCK = Pattern.compile("(?ms)^```(\\w+)\n(.*?)^```$");
    private static final Pattern SEEN = Pattern.compile("(?m)^ +see\\(.*; *// (-?\\d+):? .*$");
    private static final Pattern ROW_OF_ANSWER = Pattern.compile("(?m)^\\|(?: `\\w+` \\|)? (-\\d+) \\|[^|]*\\| (`[^|]*) \\|$");
    private static final Pattern ROW_OF_TEST = Pattern.compile("(?m)^\\| (\\w+Test) \\| (.*) \\|$");
    private static final Pattern PROMISES = Pattern.compile("(\\d+)(?: to (\\d+))?");
    private static final String ALL_TESTS = ".ci/run\n";

    public static void main(String[] args) throws Exception {
        String page = Files.readString(Path.of("README.md"), StandardCharsets.ISO_8859_1);
        List<String> commands = blocks(page, "sh");
        List<String> examples = blocks(page, "java");
        Due.due("examples", examples.size(), 1);
        Due.holds("it tells how to run all tests", commands.remove(ALL_TESTS));
        examples.forEach(ReadmeTest::callsAll);
        runs(commands, examples.get(0));
        constants(page);
        answers(page);
        tests(page);
        Due.end();
    }

    private static List<String> blocks(String page, String language) {
        List<String> all = new ArrayList<>();
        for (Matcher m = BLOCK.matcher(page); m.find();) {
            if (m.group(1).equals(language)) {
                all.add(m.group(2));
            }
        }
        return all;
    }

    // ---- the commands, the example

    private static void callsAll(String example) {
        for (Method m : publicMethods()) {
            Due.holds("the example calls " + m.getName(), example.contains("X." + m.getName() + "("));
        }
    }

    /** In a place like this directory, beside a place like ../shared, so that the commands write nothing here. */
    private static void runs(List<String> commands, String example) throws Exception {
        Path there = Files.createTempDirectory("readme");
        try {
            Path main = Files.createDirectory(there.resolve("main"));
            Files.createSymbolicLink(main.resolve("src"), Path.of("src").toAbsolutePath());
            Files.createSymbolicLink(there.resolve("shared"), Path.of("../shared").toRealPath());
            Files.writeString(main.resolve("Example.java"), example);
            int examplesRun = 0;
            for (String command : commands) {
                List<String> printed = printed(main, command);
                if (command.contains("Example")) {
                    answersAreSo(example, printed);
                    examplesRun++;
                }
            }
            Due.due("how often the example is run", examplesRun, 1);
        } finally {
            remove(there);
        }
    }

    private static List<String> printed(Path directory, String command) throws Exception {
        Path output = directory.resolve("printed");
        int ended = new ProcessBuilder("sh", "-e", "-c", command).directory(directory.toFile())
                .redirectErrorStream(true).redirectOutput(output.toFile()).start().waitFor();
        List<String> lines = Files.readAllLines(output, StandardCharsets.ISO_8859_1);
        Due.due(command + String.join("\n", lines) + "\nended with", ended, 0);
        return lines;
    }

    private static void answersAreSo(String example, List<String> printed) {
        int seen = 0;
        for (Matcher m = SEEN.matcher(example); m.find(); seen++) {
            String got = seen < printed.size() ? printed.get(seen) : "nothing";
            Due.holds("README.md: " + m.group().trim() + " - it printed " + got, got.equals(m.group(1)));
        }
        Due.due("answers printed", printed.size(), seen);
    }

    private static void remove(Path there) throws IOException {
        List<Path> all;
        try (Stream<Path> paths = Files.walk(there)) {
            all = paths.sorted(Comparator.reverseOrder()).toList();
        }
        for (Path path : all) {
            Files.delete(path);
        }
    }

    // ---- what the constants mean

    private static List<Method> publicMethods() {
        List<Method> all = new ArrayList<>();
        for (Method m : LighthouseLiedTo.class.getDeclaredMethods()) {
            if (Modifier.isPublic(m.getModifiers())) {
                all.add(m);
            }
        }
        all.sort(Comparator.comparing(Method::getName));
        return all;
    }

    private static void constants(String page) throws Exception {
        for (Field f : LighthouseLiedTo.class.getFields()) {
            String row = "\n| `" + f.getName() + "` | " + f.get(null) + " | ";
            Due.holds("a row of " + f.getName(), page.contains(row));
        }
    }

    /** Which calls answer which number: no other one was seen to, and each of them was. */
    private static void answers(String page) throws Exception {
        Map<Long, Set<String>> told = new TreeMap<>();
        for (Matcher m = ROW_OF_ANSWER.matcher(page); m.find();) {
            told.put(Long.parseLong(m.group(1)), new TreeSet<>(List.of(m.group(2).replaceAll("[` ]", "").split(","))));
        }
        Due.due("numbers told", told.size(), 13);
        Map<Long, Set<String>> seen = seenAnswers(told.keySet());
        // The other numbers that these two answer are how bright, feared or liked a cell is.
        seen.forEach((number, names) -> names.removeIf(name -> name.equals("asks") && number != -1000
                || name.equals("likes") && number != -100000));
        // NIGHT 999 is beyond the calls of an object.
        seen.get((long) LighthouseLiedTo.STATE).add("night");
        told.forEach((number, names) -> Due.holds("README.md: " + number + " is answered by " + names
                + ", it was by " + seen.get(number), names.equals(seen.get(number))));
    }

    private static Map<Long, Set<String>> seenAnswers(Set<Long> numbers) throws Exception {
        int[] pool = {-1, 0, 0, 1, 1, 2, 3, 5, 6, 10, 20, 21, 35, 36, 40, 41, 99, 100, 3600};
        Map<Long, Set<String>> seen = new TreeMap<>();
        numbers.forEach(number -> seen.put(number, new TreeSet<>()));
        long state = 1;
        for (int run = 0; run < 400; run++) {
            LighthouseLiedTo x = run % 2 == 0 ? new LighthouseLiedTo() : wellUsed();
            for (int round = 0; round < 6; round++) {
                for (Method m : publicMethods()) {
                    Object[] arguments = new Object[m.getParameterCount()];
                    for (int i = 0; i < arguments.length; i++) {
                        state = state * 6364136223846793005L + 1442695040888963407L;
                        arguments[i] = pool[(int) ((state >>> 33) % pool.length)];
                    }
                    long answer = ((Number) m.invoke(x, arguments)).longValue();
                    seen.getOrDefault(answer, new TreeSet<>()).add(m.getName());
                }
            }
        }
        return seen;
    }

    /** Six ships amid rocks, one of them lost; six texts, a full tape, sheets of unlike sorts. */
    private static LighthouseLiedTo wellUsed() {
        LighthouseLiedTo x = new LighthouseLiedTo();
        for (int c = 0; c < 36; c++) {
            x.rock(c, 1);
        }
        x.ship(0, 0);
        x.night();
        for (int kind = 1; kind < 6; kind++) {
            x.ship(10 * kind, 100 * kind);
        }
        x.sheet(0, 0, 5);
        x.sheet(1, 2, 5);
        for (int t = 1; t < 6; t++) {
            Due.textOf(x, "shines 0;fades 0;fears 0;");
        }
        for (int n = 0; n < 160; n += 5) {
            x.feed(5, ' ', ' ', ' ', ' ', ' ');
        }
        return x;
    }

    // ---- which test holds which promises

    private static void tests(String page) throws IOException {
        Set<String> there;
        try (Stream<Path> files = Files.list(Path.of("src/test/java"))) {
            there = new TreeSet<>(files.map(f -> f.getFileName().toString().replace(".java", ""))
                    .filter(name -> name.endsWith("Test")).toList());
        }
        Set<String> named = new TreeSet<>();
        Set<Integer> held = new TreeSet<>();
        for (Matcher m = ROW_OF_TEST.matcher(page); m.find();) {
            named.add(m.group(1));
            for (Matcher p = PROMISES.matcher(m.group(2)); p.find();) {
                int first = Integer.parseInt(p.group(1));
                int last = p.group(2) == null ? first : Integer.parseInt(p.group(2));
                for (int promise = first; promise <= last; promise++) {
                    held.add(promise);
                }
            }
        }
        Due.holds("README.md names the tests " + named + ", there are " + there, named.equals(there));
        Due.holds("a test for each of 40 promises: " + held,
                held.size() == 40 && held.contains(1) && held.contains(40));
    }
}
