import java.io.IOException;
import java.nio.charset.StandardCharsets;
import java.nio.file.Files;
import java.nio.file.Path;
import java.util.ArrayList;
import java.util.List;
import java.util.regex.Matcher;
import java.util.regex.Pattern;

/**
 * Makes of README.md what .ci/run compiles and runs: the use that it shows, just
 * as it is written there (ReadmeAsWritten), the same with a check of each answer
 * (ReadmeAnswers), and the commands that it names (commands.sh).
 */
public final class ReadmeUse {
    private static final Pattern CALL =
            Pattern.compile("(?:(int|long|double) (\\w+) = )?(\\w+\\.\\w+\\(.*\\)); +// (throws )?([^ ,]+)(?:, .*)?");
    private static final Pattern NO_CALL = Pattern.compile("|//.*|CaskYard \\w+ = new CaskYard\\(\\);");

    public static void main(String[] args) throws IOException {
        if (args.length != 2) {
            throw new IllegalArgumentException("ReadmeUse README.md directory");
        }
        String page = Files.readString(Path.of(args[0]), StandardCharsets.UTF_8);
        Path directory = Path.of(args[1]);
        List<String> use = blocks(page, "java");
        write(directory.resolve("ReadmeAsWritten.java"), "final class ReadmeAsWritten {\n    static void use() {\n"
                + String.join("\n", use) + "\n    }\n}\n");
        write(directory.resolve("ReadmeAnswers.java"), answers(use));
        List<String> commands = blocks(page, "sh");
        commands.remove(".ci/run");
        write(directory.resolve("commands.sh"), String.join("\n", commands) + "\n");
    }

    /** The lines of all blocks of a kind, in their order. */
    static List<String> blocks(String page, String kind) {
        List<String> lines = new ArrayList<>();
        Matcher block = Pattern.compile("(?ms)^```" + kind + "\n(.*?)^```$").matcher(page);
        while (block.find()) {
            lines.addAll(List.of(block.group(1).split("\n")));
        }
        return lines;
    }

    private static String answers(List<String> use) {
        StringBuilder text = new StringBuilder("public final class ReadmeAnswers {\n");
        text.append("    public static void main(String[] args) {\n");
        for (String line : use) {
            Matcher call = CALL.matcher(line);
            if (call.matches()) {
                text.append(checked(call));
            } else if (NO_CALL.matcher(line).matches()) {
                text.append("        ").append(line).append('\n');
            } else {
                throw new IllegalArgumentException("README.md shows a call without its answer: " + line);
            }
        }
        return text.append("        Check.end();\n    }\n}\n").toString();
    }

    private static String checked(Matcher call) {
        String expression = call.group(3);
        String due = call.group(4) == null ? call.group(5) : "throws." + call.group(5);
        String name = call.group(2);
        if (name != null) {
            return "        " + call.group(1) + " " + name + " = " + expression + ";\n"
                    + "        Check.dueText(\"" + expression + "\", String.valueOf(" + name + "), \"" + due + "\");\n";
        }
        return "        Check.dueText(\"" + expression + "\", Check.answer(() -> " + expression + "), \"" + due
                + "\");\n";
    }

    private static void write(Path path, String text) throws IOException {
        Files.writeString(path, text, StandardCharsets.UTF_8);
    }
}
