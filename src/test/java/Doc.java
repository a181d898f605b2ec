import java.io.IOException;
import java.nio.charset.StandardCharsets;
import java.nio.file.DirectoryStream;
import java.nio.file.Files;
import java.nio.file.Path;
import java.util.ArrayList;
import java.util.Arrays;
import java.util.Comparator;
import java.util.List;
import java.util.regex.Matcher;
import java.util.regex.Pattern;

/**
 * The document itself. A test quotes the words that it holds the class to, so
 * that words that no test quotes, or that the document does not say any more,
 * are found. Where the document can't be read the class is tested
 * all the same, and a line tells that the quotes were not looked up.
 */
final class Doc {
    /** What stands ahead of the promises. */
    static final int TERMS = 0;

    private static final String[] NOT_TO_QUOTE = {
        "^# CaskYard ## What it is A cooper's yard\\.", "; what later calls answer is free",
        "## The public face", "## Terms", "## Promise \\d+: [\\w ]+?(?= [-`])", "```text",
        "```java.*?```", "`(?:int|double|long) \\w+\\([^`]*`", "Throws `\\w+` if", "\\bor\\b"
    };
    private static final String TEXT = read();
    private static final List<List<String>> QUOTES = new ArrayList<>();

    static {
        for (int promise = 0; promise <= 19; promise++) {
            QUOTES.add(new ArrayList<>());
        }
    }

    private Doc() {
    }

    /** The document says these words ahead of the promises, or in one of them. */
    static void says(int promise, String words) {
        if (!TEXT.isEmpty()) {
            Check.due("promise " + promise + " says: " + words, part(promise).contains(words) ? 1 : 0, 1);
        }
        QUOTES.get(promise).add(words);
    }

    /** Each case of an exception of these promises was quoted. */
    static void refusalsAreQuoted(int from, int to) {
        for (int promise = from; promise <= to; promise++) {
            Matcher line = Pattern.compile("Throws `\\w+` if (.*?)(?= Throws `| ## |$)").matcher(part(promise));
            while (line.find()) {
                Check.dueText("what no test quotes of promise " + promise, unquoted(promise, line.group(1)), "");
            }
        }
    }

    /**
     * Each word of the document is quoted by a test of the project, but for
     * headings, the lines that FaceTest takes from the face, and what is free.
     */
    static void everyWordIsQuoted() throws IOException {
        if (TEXT.isEmpty()) {
            return;
        }
        List<List<String>> quotes = quotesOfAllTests();
        for (int promise = 0; promise <= 19; promise++) {
            String part = part(promise);
            boolean[] quoted = new boolean[part.length()];
            for (String quote : quotes.get(promise)) {
                mark(quoted, Pattern.compile(Pattern.quote(quote)).matcher(part));
            }
            for (String pattern : NOT_TO_QUOTE) {
                mark(quoted, Pattern.compile(pattern).matcher(part));
            }
            StringBuilder left = new StringBuilder();
            for (int at = 0; at < quoted.length; at++) {
                left.append(quoted[at] ? ' ' : part.charAt(at));
            }
            String words = left.toString().replaceAll("\\W+", " ").trim();
            Check.dueText("what no test quotes of part " + promise, words, "");
        }
    }

    private static void mark(boolean[] marks, Matcher matcher) {
        while (matcher.find()) {
            Arrays.fill(marks, matcher.start(), matcher.end(), true);
        }
    }

    private static List<List<String>> quotesOfAllTests() throws IOException {
        List<List<String>> quotes = new ArrayList<>();
        for (int promise = 0; promise <= 19; promise++) {
            quotes.add(new ArrayList<>());
        }
        String text = "\"(?:[^\"\\\\]|\\\\.)*\"";
        Pattern call = Pattern.compile("Doc\\.says\\((Doc\\.TERMS|\\d+), (" + text
                + "(?:\\s*\\+\\s*" + text + ")*)\\);");
        try (DirectoryStream<Path> tests = Files.newDirectoryStream(
                Path.of(System.getProperty("caskyard.tests", "src/test/java")), "*Test.java")) {
            for (Path test : tests) {
                Matcher matcher = call.matcher(Files.readString(test, StandardCharsets.UTF_8));
                while (matcher.find()) {
                    int promise = matcher.group(1).equals("Doc.TERMS") ? TERMS : Integer.parseInt(matcher.group(1));
                    String words = matcher.group(2).replaceAll("\"\\s*\\+\\s*\"", "").replaceAll("^\"|\"$", "");
                    quotes.get(promise).add(words);
                }
            }
        }
        return quotes;
    }

    private static String unquoted(int promise, String words) {
        List<String> quotes = new ArrayList<>(QUOTES.get(promise));
        quotes.sort(Comparator.comparingInt(String::length).reversed());
        String left = words;
        for (String quote : quotes) {
            left = left.replace(quote, "");
        }
        return left.replaceAll(",|\\bor\\b|\\s", "");
    }

    private static String part(int promise) {
        int from = promise == TERMS ? 0 : TEXT.indexOf("## Promise " + promise + ":");
        int to = TEXT.indexOf(promise == 19 ? "## Not promised" : "## Promise " + (promise + 1) + ":");
        return from < 0 || to < from ? "" : TEXT.substring(from, to);
    }

    private static String read() {
        Path path = Path.of(System.getProperty("caskyard.doc", "../shared/DOC.md"));
        try {
            return Files.readString(path, StandardCharsets.UTF_8).replaceAll("\\s+", " ");
        } catch (IOException e) {
            System.out.println("the document can't be read, its quotes are not looked up: " + e);
            return "";
        }
    }
}
