import java.nio.file.Files;
import java.nio.file.Path;
import java.util.List;
import java.util.regex.Matcher;
import java.util.regex.Pattern;

/** What of LANGUAGE.md can be seen in the source's text. The test runs in the project's folder. */
public final class LanguageTest {
    private static final String[] FORBIDDEN = {
        "->", "::", "\\bfinally\\b", "\\bsynchronized\\b", "\\bassert\\b", "\\bimport\\s+static\\b", "\\bpackage\\b",
        "\\bcatch\\b", "\\btry\\b", "\\bSystem\\.(?!arraycopy)", "\\bThread\\b", "\\bObject\\b", "\\bNaN\\b",
        "Exact\\b", "\\bhashCode\\b", "\\btoString\\b", "\\bgetMessage\\b", "\\bstatic\\s*\\{", "\\bvar\\b",
        "\\bwhile\\s*\\(\\s*true", "\\bprotected\\b", "\\bnative\\b", "\\bvolatile\\b", "\\btransient\\b",
        "\\bfloat\\b", "\\bdouble\\b", "\"\\s*\\+", "\\+\\s*\"", "\\bjava\\.(?!util\\.NoSuchElementException)"};

    public static void main(String[] args) throws Exception {
        String source = Files.readString(Path.of("src/main/java/BellForWanted.java"));
        String code = source.replaceAll("(?s)/\\*.*?\\*/", "").replaceAll("//[^\n]*", "");
        for (String forbidden : FORBIDDEN) {
            Matcher m = Pattern.compile(forbidden).matcher(code);
            Check.due("the code has no " + forbidden, m.find(), false);
        }
        for (int i = 0; i < source.length(); i++) {
            if (source.charAt(i) > 127) {
                Check.due("the sign at " + i, source.charAt(i), 127);
            }
        }
        thrown(code);
        makes(code);
        methods(code);
        Check.ends();
    }

    /** Exceptions are thrown by the face alone, in one() and row(). */
    private static void thrown(String code) {
        Matcher m = Pattern.compile("throw new (\\w+)").matcher(code);
        int found = 0;
        while (m.find()) {
            found++;
            Check.due("throws " + m.group(1), m.group(1).equals("NoSuchElementException"), true);
        }
        Check.due("two are thrown", found, 2);
    }

    /** Objects and arrays are made in fields and constructors alone, so that calls cost no room. */
    private static void makes(String code) {
        int line = 0;
        for (String text : code.split("\n")) {
            line++;
            boolean field = text.contains("private final ") || text.contains("private Rule ");
            boolean ofPast = text.contains("new Folk()");
            if (text.contains("new ") && !text.contains("throw ")) {
                Check.due("what is made in: " + text.trim(), field || ofPast, true);
            }
        }
        Check.due("there are lines", line > 0, true);
    }

    /** Methods of some sixty lines and seven parameters at most. */
    private static void methods(String code) {
        List<String> lines = List.of(code.split("\n"));
        Pattern head = Pattern.compile("^( {4}| {8})(public|private)[^=;]*\\(([^)]*)\\)[^;]*\\{$");
        int found = 0;
        for (int i = 0; i < lines.size(); i++) {
            Matcher m = head.matcher(lines.get(i));
            if (m.find()) {
                found++;
                int end = i;
                while (end < lines.size() && !lines.get(end).equals(m.group(1) + "}")) {
                    end++;
                }
                Check.due("the length of" + lines.get(i), end - i < 60, true);
                Check.due("the parameters of" + lines.get(i), m.group(3).split(",").length <= 7, true);
            }
        }
        Check.due("methods were found", found > 100, true);
    }
}
