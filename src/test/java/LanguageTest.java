import java.io.IOException;
import java.nio.charset.StandardCharsets;
import java.nio.file.Files;
import java.nio.file.Path;
import java.util.List;
import java.util.regex.Matcher;
import java.util.regex.Pattern;

/** What of ../shared/LANGUAGE.md can be seen by looking at the source; run from the project's folder. */
public final class LanguageTest {
    private static final String[] FORBIDDEN = {"->", "::", "\\bcatch\\b", "\\btry\\b", "\\bfinally\\b", "\\bsynchronized\\b",
        "\\bassert\\b", "\\bvar\\b", "\\bdouble\\b", "\\bfloat\\b", "Exact\\(", "\\bSystem\\.(?!arraycopy)", "\\bThread\\b",
        "\\bstatic \\{", "\\.equals\\(", "\\bhashCode\\b", "\\btoString\\b", "\\bpackage ", "\\bprotected\\b", "\\bRandom\\b"};

    private LanguageTest() {
    }

    public static void main(String[] args) throws IOException {
        byte[] bytes = Files.readAllBytes(Path.of("src/main/java/TokenCircuit.java"));
        String source = new String(bytes, StandardCharsets.ISO_8859_1);
        for (byte one : bytes) {
            if (one < 10) {
                Due.holds("only plain signs in the source", false);
                break;
            }
        }
        String code = Pattern.compile("/\\*.*?\\*/", Pattern.DOTALL).matcher(source).replaceAll("");
        code = code.replaceAll("//[^\n]*", "");
        for (String forbidden : FORBIDDEN) {
            Due.holds("no " + forbidden, !Pattern.compile(forbidden).matcher(code).find());
        }
        Matcher imports = Pattern.compile("import ([^;]*);").matcher(code);
        while (imports.find()) {
            Due.holds("import " + imports.group(1),
                List.of("java.util.Arrays", "java.util.NoSuchElementException").contains(imports.group(1)));
        }
        Matcher thrown = Pattern.compile("throw (.*)").matcher(code);
        while (thrown.find()) {
            Due.holds("throw " + thrown.group(1), thrown.group(1).matches("new NoSuchElementException\\(\"[^\"]*\"\\);"));
        }
        nothingNewInCalls(code);
        shortMethods(code);
        Due.end();
    }

    /** All rows and objects are made with the object: in a field's own line, or in a constructor. */
    private static void nothingNewInCalls(String code) {
        String method = "";
        for (String line : code.split("\n")) {
            if (line.matches(" {4,8}[A-Za-z].*\\{")) {
                method = line.trim();
            }
            boolean isField = line.matches(" *private final .*= new .*;");
            boolean isMade = method.matches("(public )?(TokenCircuit|Maker)\\(.*");
            Due.holds("new: " + line.trim(), !line.contains("new ") || line.contains("throw new") || isField || isMade);
        }
    }

    private static void shortMethods(String code) {
        String[] lines = code.split("\n");
        int opened = -1;
        for (int i = 0; i < lines.length; i++) {
            if (lines[i].matches(" {4,8}[A-Za-z].*\\) *(throws \\w+ )?\\{")) {
                opened = i;
            }
            if (opened >= 0 && lines[i].trim().equals("}") && lines[i].indexOf('}') == indent(lines[opened])) {
                Due.holds("short: " + lines[opened].trim(), i - opened < 62);
                opened = -1;
            }
        }
    }

    private static int indent(String line) {
        return line.length() - line.stripLeading().length();
    }
}
