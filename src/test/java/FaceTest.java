import java.lang.reflect.Constructor;
import java.lang.reflect.Field;
import java.lang.reflect.Method;
import java.lang.reflect.Modifier;
import java.util.ArrayList;
import java.util.Arrays;
import java.util.List;
import java.util.TreeSet;

/** The public face is the document's, and nothing else can be seen from outside. */
public final class FaceTest {
    private static final String[] FACE = {
        "int move()", "boolean cycle(int, int, int)", "int run()", "int base(int)",
        "int spread(int)", "int order(int)", "int stabiliser(int, int)", "int orbit(int)",
        "int block(int, int)", "int state()", "boolean apply(int, int)",
        "boolean exchange(int, int, int)", "boolean scramble(int, long, int)",
        "int image(int, int)", "int member(int)", "int level(int)", "int parity(int)",
        "long times(int)",
    };

    public static void main(String[] args) {
        Due due = new Due();
        Class<?> type = CycleGroups.class;
        due.yes("public and final", Modifier.isPublic(type.getModifiers())
            && Modifier.isFinal(type.getModifiers()));
        TreeSet<String> seen = new TreeSet<>();
        List<String> publicNames = new ArrayList<>();
        List<String> privateNames = new ArrayList<>();
        for (Method method : type.getDeclaredMethods()) {
            if (Modifier.isPrivate(method.getModifiers())) {
                privateNames.add(method.getName());
            } else {
                due.yes(method + " is public", Modifier.isPublic(method.getModifiers()));
                publicNames.add(method.getName());
                seen.add(text(method));
            }
        }
        due.sameText("methods", seen.toString(), new TreeSet<>(Arrays.asList(FACE)).toString());
        for (String name : privateNames) {
            due.no("a private method named " + name, publicNames.contains(name));
        }
        for (Field field : type.getDeclaredFields()) {
            due.yes(field + " is private", Modifier.isPrivate(field.getModifiers()));
        }
        Constructor<?>[] constructors = type.getDeclaredConstructors();
        due.same("constructors", constructors.length, 1);
        due.sameText("constructor", constructors[0].toString(), "public CycleGroups(int)");
        due.end();
    }

    private static String text(Method method) {
        StringBuilder text = new StringBuilder();
        text.append(method.getReturnType()).append(' ').append(method.getName()).append('(');
        String comma = "";
        for (Class<?> parameter : method.getParameterTypes()) {
            text.append(comma).append(parameter);
            comma = ", ";
        }
        return text.append(')').toString();
    }
}
