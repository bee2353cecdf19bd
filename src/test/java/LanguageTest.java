import java.nio.charset.StandardCharsets;
import java.nio.file.Files;
import java.nio.file.Path;
import java.util.ArrayList;
import java.util.List;
import java.util.Set;
import java.util.regex.Matcher;
import java.util.regex.Pattern;

/** What of ../shared/LANGUAGE.md can be seen in the file's words. */
public final class LanguageTest {
    private static final Set<String> FORBIDDEN = Set.of("package", "import", "throw", "throws", "try", "catch",
            "finally", "synchronized", "assert", "protected", "volatile", "transient", "native", "double", "float",
            "Object", "System.out", "equals", "hashCode", "toString", "record", "yield", "var");
    private static final Set<String> LIBRARY = Set.of("LighthouseLiedTo", "Sea", "Law", "Reader", "Sheet", "String",
            "System", "Math", "Integer", "Long");

    public static void main(String[] args) throws Exception {
        String file = Files.readString(Path.of("src/main/java/LighthouseLiedTo.java"), StandardCharsets.ISO_8859_1);
        for (int i = 0; i < file.length(); i++) {
            if (file.charAt(i) != '\n' && (file.charAt(i) < 32 || file.charAt(i) > 126)) {
                Due.holds("sign at " + i, false);
            }
        }
        String code = bare(file);
        words(code);
        Due.holds("no lambda, no arrow", !code.contains("->"));
        Due.holds("no method reference", !code.contains("::"));
        Due.holds("no initialiser block", !Pattern.compile("static\\s*\\{").matcher(code).find());
        Due.holds("no raw array of objects beside texts and sheets",
                count(code, "new Law\\[") == 1 && count(code, "new Sheet\\[") == 1);
        methods(code);
        Due.end();
    }

    /** Without comments and what stands in quotes. */
    private static String bare(String file) {
        return file.replaceAll("(?s)/\\*.*?\\*/", "").replaceAll("//[^\n]*", "")
                .replaceAll("\"[^\"\n]*\"", "\"\"").replaceAll("'(\\\\.|[^'\\\\])'", "' '");
    }

    private static int count(String code, String pattern) {
        int n = 0;
        for (Matcher m = Pattern.compile(pattern).matcher(code); m.find();) {
            n++;
        }
        return n;
    }

    private static void words(String code) {
        for (Matcher m = Pattern.compile("[A-Za-z_][A-Za-z_0-9]*").matcher(code); m.find();) {
            String word = m.group();
            Due.holds("no " + word, !FORBIDDEN.contains(word));
            boolean type = Character.isUpperCase(word.charAt(0)) && !word.equals(word.toUpperCase());
            Due.holds("known: " + word, !type || LIBRARY.contains(word));
        }
        Due.holds("at most twelve classes", count(code, "\\bclass\\b") <= 12);
        Due.holds("all classes inside are static", count(code, "\\bclass\\b") == count(code, "static final class\\b") + 1);
    }

    /** Methods of at most 60 lines and seven parameters; none inside makes anything but in a constructor or a field. */
    private static void methods(String code) {
        String[] lines = code.split("\n");
        Pattern head = Pattern.compile("^ {4,8}[A-Za-z].*\\(([^)]*)\\) \\{$");
        List<String> makers = new ArrayList<>();
        int seen = 0;
        for (int i = 0; i < lines.length; i++) {
            Matcher m = head.matcher(lines[i]);
            if (!m.matches() || lines[i].trim().startsWith("if") || lines[i].trim().startsWith("for")) {
                continue;
            }
            seen++;
            String indent = lines[i].substring(0, lines[i].length() - lines[i].stripLeading().length());
            int end = i;
            while (!lines[end].equals(indent + "}")) {
                if (lines[end].matches(".*\\bnew\\b.*")) {
                    makers.add(lines[i].trim());
                }
                end++;
            }
            Due.holds("short: " + lines[i], end - i <= 60);
            Due.holds("parameters: " + lines[i], m.group(1).split(",").length <= 7);
        }
        Due.holds("methods were seen: " + seen, seen > 80);
        for (String maker : makers) {
            Due.holds("makes something: " + maker, maker.equals("public LighthouseLiedTo() {"));
        }
    }
}
