import java.io.IOException;
import java.lang.reflect.Method;
import java.lang.reflect.Modifier;
import java.nio.charset.StandardCharsets;
import java.nio.file.DirectoryStream;
import java.nio.file.Files;
import java.nio.file.Path;
import java.nio.file.attribute.PosixFilePermission;
import java.util.List;
import java.util.Set;
import java.util.TreeSet;
import java.util.regex.Matcher;
import java.util.regex.Pattern;

/**
 * What README.md says of the calls and of the way to run the tests. What it
 * shows as use is compiled and run by .ci/run, by way of ReadmeUse.
 */
public final class ReadmeTest {
    public static void main(String[] args) throws IOException {
        Path root = Path.of(System.getProperty("caskyard.root", "."));
        String page = Files.readString(root.resolve("README.md"), StandardCharsets.UTF_8);
        eachCallIsShown(page);
        eachCallIsTold(page);
        theWayToRunTheTests(page, root);
        eachTestIsNamed(page, root);
        Check.end();
    }

    private static Set<String> found(String text, String pattern) {
        Set<String> found = new TreeSet<>();
        Matcher matcher = Pattern.compile(pattern).matcher(text);
        while (matcher.find()) {
            found.add(matcher.group(1));
        }
        return found;
    }

    private static Set<String> face() {
        Set<String> names = new TreeSet<>();
        for (Method method : CaskYard.class.getDeclaredMethods()) {
            if (Modifier.isPublic(method.getModifiers())) {
                names.add(method.getName());
            }
        }
        return names;
    }

    private static void eachCallIsShown(String page) {
        String use = String.join("\n", ReadmeUse.blocks(page, "java"));
        Check.dueText("the calls that are shown", found(use, "yard\\.(\\w+)\\(").toString(), face().toString());
    }

    private static void eachCallIsTold(String page) {
        Check.dueText("the calls that are told", found(page, "(?m)^\\| `(\\w+)\\(").toString(), face().toString());
        for (String call : found(page, "(?m)^\\| `(\\w+\\([^`]*)`")) {
            String parameters = call.substring(call.indexOf('(') + 1, call.length() - 1);
            int number = parameters.isEmpty() ? 0 : parameters.split(", ").length;
            for (Method method : CaskYard.class.getDeclaredMethods()) {
                if (call.startsWith(method.getName() + "(")) {
                    Check.due("the parameters of " + call, method.getParameterCount(), number);
                }
            }
        }
    }

    private static void theWayToRunTheTests(String page, Path root) throws IOException {
        int from = page.indexOf("## How to run its tests");
        Check.due("it says how to run the tests", from < 0 ? 0 : 1, 1);
        List<String> commands = ReadmeUse.blocks(page.substring(Math.max(0, from)), "sh");
        Check.dueText("the way to run the tests", commands.isEmpty() ? "" : commands.get(0), ".ci/run");
        Path named = root.resolve(".ci/run");
        Check.due("it can be run", 
                Files.getPosixFilePermissions(named).contains(PosixFilePermission.OWNER_EXECUTE) ? 1 : 0, 1);
        String running = System.getProperty("caskyard.run");
        if (running != null) {
            Check.due("it is what runs now", Files.isSameFile(named, Path.of(running)) ? 1 : 0, 1);
        }
    }

    private static void eachTestIsNamed(String page, Path root) throws IOException {
        Set<String> tests = new TreeSet<>();
        try (DirectoryStream<Path> files = Files.newDirectoryStream(root.resolve("src/test/java"), "*Test.java")) {
            for (Path file : files) {
                tests.add(file.getFileName().toString().replace(".java", ""));
            }
        }
        Check.dueText("the tests that are named", found(page, "`(\\w+Test)`").toString(), tests.toString());
        for (String command : ReadmeUse.blocks(page, "sh")) {
            Matcher test = Pattern.compile("java -cp out (\\w+).*").matcher(command);
            if (test.matches()) {
                Check.due("there is a test for: " + command, tests.contains(test.group(1)) ? 1 : 0, 1);
            }
        }
    }
}
