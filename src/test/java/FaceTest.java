import java.lang.reflect.Constructor;
import java.lang.reflect.Field;
import java.lang.reflect.Method;
import java.lang.reflect.Modifier;
import java.util.Set;
import java.util.TreeSet;

/** The class shows the document's face, and nothing else. */
public final class FaceTest {
    private static final String[] FACE = {
        "int addSort(int,int,int)", "int addStave(int,int)", "int blend(int,int)", "int breakUp(int)",
        "int cask(int,int)", "int choose(int,int)", "int count(int)", "int drive(int,int,int)",
        "int fill(int,int,int)", "int foresee(int,int,int)", "int mend(int,int)", "int pass(int)",
        "int rack(int,int,int)", "int raise(int)", "int setWarmth(int)", "int stave(int,int)",
        "long digest()", "double taste()"
    };

    public static void main(String[] args) {
        Class<?> type = CaskYard.class;
        Check.due("public and final", type.getModifiers() & (Modifier.PUBLIC | Modifier.FINAL),
                Modifier.PUBLIC | Modifier.FINAL);
        Set<String> due = new TreeSet<>(Set.of(FACE));
        Set<String> seen = new TreeSet<>();
        Set<String> names = new TreeSet<>();
        for (Method method : type.getDeclaredMethods()) {
            if (!Modifier.isPrivate(method.getModifiers())) {
                seen.add(signature(method));
                names.add(method.getName());
            }
        }
        Check.dueText("the methods", seen.toString(), due.toString());
        for (Method method : type.getDeclaredMethods()) {
            if (Modifier.isPrivate(method.getModifiers())) {
                Check.due("a private method with the name " + method.getName() + " of a public one",
                        names.contains(method.getName()) ? 1 : 0, 0);
            }
        }
        Constructor<?>[] constructors = type.getDeclaredConstructors();
        Check.due("constructors", constructors.length, 1);
        Check.due("its parameters", constructors[0].getParameterCount(), 0);
        Check.due("it is public", constructors[0].getModifiers(), Modifier.PUBLIC);
        for (Field field : type.getDeclaredFields()) {
            Check.due("private: field " + field.getName(), field.getModifiers() & Modifier.PRIVATE, Modifier.PRIVATE);
            if (Modifier.isStatic(field.getModifiers())) {
                Check.due("final: field " + field.getName(), field.getModifiers() & Modifier.FINAL, Modifier.FINAL);
            }
        }
        Check.end();
    }

    private static String signature(Method method) {
        StringBuilder text = new StringBuilder(method.getReturnType().getName());
        text.append(' ').append(method.getName()).append('(');
        String gap = "";
        for (Class<?> parameter : method.getParameterTypes()) {
            text.append(gap).append(parameter.getName());
            gap = ",";
        }
        return text.append(')').toString();
    }
}
