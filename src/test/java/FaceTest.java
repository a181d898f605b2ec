import java.io.IOException;
import java.lang.reflect.Constructor;
import java.lang.reflect.Field;
import java.lang.reflect.Method;
import java.lang.reflect.Modifier;
import java.nio.charset.StandardCharsets;
import java.nio.file.Files;
import java.nio.file.Path;
import java.util.Set;
import java.util.TreeSet;
import java.util.regex.Matcher;
import java.util.regex.Pattern;

/** The class shows the document's face, and nothing else. */
public final class FaceTest {
    private static final String[] FACE = {
        "public int addStave(int width, int dryness) throws IllegalArgumentException, IllegalStateException",
        "public int stave(int stave, int what) throws IndexOutOfBoundsException",
        "public int addSort(int girth, int room, int hoops) throws IllegalArgumentException, IllegalStateException",
        "public int choose(int sort, int index) throws IndexOutOfBoundsException",
        "public int raise(int sort) throws IndexOutOfBoundsException, IllegalStateException",
        "public int drive(int cask, int hoop, int by) throws IndexOutOfBoundsException, IllegalArgumentException",
        "public int mend(int cask, int stave) throws IndexOutOfBoundsException, IllegalStateException",
        "public int breakUp(int cask) throws IndexOutOfBoundsException, IllegalStateException",
        "public int cask(int cask, int what) throws IndexOutOfBoundsException",
        "public int fill(int cask, int liquid, int amount)"
                + " throws IndexOutOfBoundsException, IllegalArgumentException, IllegalStateException",
        "public int rack(int from, int to, int amount)"
                + " throws IndexOutOfBoundsException, IllegalArgumentException, IllegalStateException",
        "public int setWarmth(int warmth) throws IllegalArgumentException",
        "public int pass(int months) throws IllegalArgumentException, IllegalStateException",
        "public int count(int what) throws IndexOutOfBoundsException",
        "public int foresee(int cask, int months, int what)"
                + " throws IndexOutOfBoundsException, IllegalArgumentException, IllegalStateException",
        "public int blend(int target, int what) throws IllegalArgumentException, IndexOutOfBoundsException",
        "public double taste()",
        "public long digest()"
    };

    public static void main(String[] args) throws IOException {
        theClass();
        theMethods();
        noNameTwice();
        theConstructor();
        theFields();
        String source = source();
        asTheDocumentWritesIt(source);
        groups(source);
        Check.end();
    }

    private static void theClass() {
        Check.due("public and final", CaskYard.class.getModifiers() & (Modifier.PUBLIC | Modifier.FINAL),
                Modifier.PUBLIC | Modifier.FINAL);
    }

    /** Their types and what they throw, as the compiled class tells it. */
    private static void theMethods() {
        Set<String> due = new TreeSet<>();
        for (String line : FACE) {
            due.add(line.replaceAll("(int|long|double) \\w+(?=[,)])", "$1"));
        }
        Set<String> seen = new TreeSet<>();
        for (Method method : CaskYard.class.getDeclaredMethods()) {
            if (!Modifier.isPrivate(method.getModifiers())) {
                seen.add(signature(method));
            }
        }
        Check.dueText("the methods", String.join("\n", seen), String.join("\n", due));
    }

    private static void noNameTwice() {
        Set<String> names = new TreeSet<>();
        for (Method method : CaskYard.class.getDeclaredMethods()) {
            if (!Modifier.isPrivate(method.getModifiers())) {
                names.add(method.getName());
            }
        }
        for (Method method : CaskYard.class.getDeclaredMethods()) {
            if (Modifier.isPrivate(method.getModifiers())) {
                Check.due("a private method with the name " + method.getName() + " of a public one",
                        names.contains(method.getName()) ? 1 : 0, 0);
            }
        }
    }

    private static void theConstructor() {
        Constructor<?>[] constructors = CaskYard.class.getDeclaredConstructors();
        Check.due("constructors", constructors.length, 1);
        Check.due("its parameters", constructors[0].getParameterCount(), 0);
        Check.due("what it throws", constructors[0].getExceptionTypes().length, 0);
        Check.due("it is public", constructors[0].getModifiers(), Modifier.PUBLIC);
    }

    private static void theFields() {
        for (Field field : CaskYard.class.getDeclaredFields()) {
            Check.due("private: field " + field.getName(), field.getModifiers() & Modifier.PRIVATE, Modifier.PRIVATE);
            if (Modifier.isStatic(field.getModifiers())) {
                Check.due("final: field " + field.getName(), field.getModifiers() & Modifier.FINAL, Modifier.FINAL);
            }
        }
        for (Class<?> inside : CaskYard.class.getDeclaredClasses()) {
            Check.due("public or protected: " + inside.getName(),
                    inside.getModifiers() & (Modifier.PUBLIC | Modifier.PROTECTED), 0);
        }
    }

    /** With the names of the parameters, which the compiled class doesn't tell. */
    private static void asTheDocumentWritesIt(String source) {
        Doc.says(Doc.TERMS, "```java public final class CaskYard { public CaskYard(); " + String.join("; ", FACE)
                + "; } ```");
        for (String line : FACE) {
            Check.due("the class has: " + line, source.contains(" " + line + " {") ? 1 : 0, 1);
        }
    }

    private static void groups(String source) {
        Doc.says(Doc.TERMS, "Ahead of the calls `addStave`, `stave`, `addSort`, `choose` "
                + "the interface says: ---- staves and sorts.");
        Check.dueText("---- staves and sorts", calls(source, "staves and sorts"), "addStave stave addSort choose");
        Doc.says(Doc.TERMS, "Ahead of the calls `raise`, `drive`, `mend`, `breakUp`, `cask` "
                + "the interface says: ---- casks.");
        Check.dueText("---- casks", calls(source, "casks"), "raise drive mend breakUp cask");
        Doc.says(Doc.TERMS, "Ahead of the calls `fill`, `rack`, `setWarmth` the interface says: ---- liquids.");
        Check.dueText("---- liquids", calls(source, "liquids"), "fill rack setWarmth");
        Doc.says(Doc.TERMS, "Ahead of the calls `pass`, `count`, `foresee`, `blend`, `taste`, `digest` "
                + "the interface says: ---- months.");
        Check.dueText("---- months", calls(source, "months"), "pass count foresee blend taste digest");
    }

    /** The public methods between a group's comment and the next one. */
    private static String calls(String source, String group) {
        int from = source.indexOf("// ---- " + group + " public ");
        if (from < 0) {
            return "no such group";
        }
        int to = source.indexOf("// ---- ", from + 1);
        Matcher method = Pattern.compile(" public (?:int|long|double) (\\w+)\\(")
                .matcher(source.substring(from, to < 0 ? source.length() : to));
        StringBuilder names = new StringBuilder();
        while (method.find()) {
            names.append(names.length() > 0 ? " " : "").append(method.group(1));
        }
        return names.toString();
    }

    private static String source() throws IOException {
        Path path = Path.of(System.getProperty("caskyard.source", "src/main/java/CaskYard.java"));
        return Files.readString(path, StandardCharsets.UTF_8).replaceAll("\\s+", " ");
    }

    private static String signature(Method method) {
        StringBuilder text = new StringBuilder(Modifier.toString(method.getModifiers()));
        text.append(' ').append(method.getReturnType().getName()).append(' ').append(method.getName()).append('(');
        String gap = "";
        for (Class<?> parameter : method.getParameterTypes()) {
            text.append(gap).append(parameter.getName());
            gap = ", ";
        }
        text.append(')');
        gap = " throws ";
        for (Class<?> thrown : method.getExceptionTypes()) {
            text.append(gap).append(thrown.getSimpleName());
            gap = ", ";
        }
        return text.toString();
    }
}
