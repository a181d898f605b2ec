import java.io.IOException;
import java.nio.charset.StandardCharsets;
import java.nio.file.Files;
import java.nio.file.Path;
import java.util.List;
import java.util.regex.Matcher;
import java.util.regex.Pattern;

/**
 * Those rules of ../shared/LANGUAGE.md that a look at the text of the class
 * can tell; the others are for the reader.
 */
public final class LanguageTest {
    private static final String[] FORBIDDEN = {
        "->", "::", "\\btry\\b", "\\bcatch\\b", "\\bfinally\\b", "\\bsynchronized\\b", "\\bassert\\b", "\\bpackage\\b",
        "\\bprotected\\b", "\\bnative\\b", "\\bvolatile\\b", "\\bSystem\\.(?!arraycopy\\b)", "\\bMath\\.\\w+Exact\\b",
        "\\bThread\\b", "\\bRandom\\b", "\\brandom\\b", "\\bequals\\b", "\\bhashCode\\b", "\\btoString\\b",
        "\\bstatic\\s*\\{", "\\bArrays\\.(?!fill\\b|copyOf\\b|copyOfRange\\b)", "\\bMath\\.(?!abs\\b|min\\b|max\\b)",
        "\\bstatic\\s+(?!final\\b)\\w+(\\[\\])*\\s+\\w+\\s*[=;]"
    };

    public static void main(String[] args) throws IOException {
        Path path = Path.of(System.getProperty("caskyard.source", "src/main/java/CaskYard.java"));
        String whole = Files.readString(path, StandardCharsets.ISO_8859_1);
        for (int at = 0; at < whole.length(); at++) {
            char sign = whole.charAt(at);
            if (sign > 126 || sign < 32 && sign != '\n') {
                Check.due("a sign of the text", sign, '\n');
            }
        }
        String bare = whole.replaceAll("(?s)/\\*.*?\\*/", "").replaceAll("//[^\n]*", "")
                .replaceAll("\"[^\"\n]*\"", "\"\"");
        for (String forbidden : FORBIDDEN) {
            Matcher matcher = Pattern.compile(forbidden).matcher(bare);
            Check.dueText("what matches " + forbidden, matcher.find() ? matcher.group() : "", "");
        }
        imports(bare);
        exceptions(bare);
        methodLengths(bare);
        Check.end();
    }

    private static void imports(String bare) {
        Matcher matcher = Pattern.compile("\\bimport\\s+([^;]*);").matcher(bare);
        while (matcher.find()) {
            Check.due("an import of " + matcher.group(1),
                    List.of("java.util.Arrays", "java.util.ArrayList", "java.util.List").contains(matcher.group(1))
                            ? 1 : 0, 1);
        }
    }

    private static void exceptions(String bare) {
        Matcher matcher = Pattern.compile("\\bthrow\\b([^;]*);").matcher(bare);
        while (matcher.find()) {
            Check.due("throw" + matcher.group(1), matcher.group(1).matches(
                    " new (IllegalStateException|IllegalArgumentException|IndexOutOfBoundsException)\\(\"\"\\)")
                            ? 1 : 0, 1);
        }
    }

    /** Sixty lines at most for each body of a method, and seven parameters. */
    private static void methodLengths(String bare) {
        String[] lines = bare.split("\n");
        int from = -1;
        String end = "";
        for (int n = 0; n < lines.length; n++) {
            Matcher matcher = Pattern.compile("^( +)[\\w\\[\\] ]+\\(([^()]*)\\).*\\{$").matcher(lines[n]);
            if (from < 0 && matcher.find() && !lines[n].contains(" class ")) {
                from = n;
                end = matcher.group(1) + "}";
                Check.due("too many parameters in line " + (n + 1),
                        matcher.group(2).split(",").length > 7 ? 1 : 0, 0);
            } else if (from >= 0 && lines[n].equals(end)) {
                Check.due("too long a method: " + lines[from], n - from > 60 ? 1 : 0, 0);
                from = -1;
            }
        }
    }
}
