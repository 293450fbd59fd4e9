import java.lang.reflect.Constructor;
import java.lang.reflect.Field;
import java.lang.reflect.Method;
import java.lang.reflect.Modifier;
import java.util.Arrays;
import java.util.TreeSet;

/** The public face is the document's, and nothing else can be seen from outside. */
public final class FaceTest {
    private static final Due due = new Due();
    private static final Class<?> TYPE = CycleGroups.class;
    private static final String[] FACE = {
        "int move()", "boolean cycle(int, int, int)", "int run()", "int base(int)",
        "int spread(int)", "int order(int)", "int stabiliser(int, int)", "int orbit(int)",
        "int block(int, int)", "int state()", "boolean apply(int, int)",
        "boolean exchange(int, int, int)", "boolean scramble(int, long, int)",
        "int image(int, int)", "int member(int)", "int level(int)", "int parity(int)",
        "long times(int)",
    };

    public static void main(String[] args) {
        due.test("public final class CycleGroups", FaceTest::theClass);
        due.test("public CycleGroups(int places)", FaceTest::theConstructor);
        due.test("the methods, no more and no less", FaceTest::theMethods);
        due.test("no other member can be seen", FaceTest::noOtherMember);
        due.end();
    }

    private static void theClass() {
        int modifiers = TYPE.getModifiers();
        due.yes("public", Modifier.isPublic(modifiers));
        due.yes("final", Modifier.isFinal(modifiers));
        due.sameText("name", TYPE.getName(), "CycleGroups");
        // What it had of another class or an interface would be of its face too.
        due.yes("of no other class", TYPE.getSuperclass() == Object.class);
        due.same("interfaces", TYPE.getInterfaces().length, 0);
    }

    private static void theConstructor() {
        Constructor<?>[] constructors = TYPE.getDeclaredConstructors();
        due.same("constructors", constructors.length, 1);
        due.sameText("constructor", constructors[0].toString(), "public CycleGroups(int)");
        due.same("it tells of no exceptions", constructors[0].getExceptionTypes().length, 0);
    }

    private static void theMethods() {
        TreeSet<String> seen = new TreeSet<>();
        for (Method method : TYPE.getMethods()) {
            if (method.getDeclaringClass() != Object.class) {
                seen.add(text(method));
                due.no(method + " is static", Modifier.isStatic(method.getModifiers()));
                due.same(method + " tells of no exceptions", method.getExceptionTypes().length, 0);
            }
        }
        due.sameText("methods", seen.toString(), new TreeSet<>(Arrays.asList(FACE)).toString());
    }

    private static void noOtherMember() {
        TreeSet<String> faceNames = new TreeSet<>();
        for (String method : FACE) {
            faceNames.add(method.substring(method.indexOf(' ') + 1, method.indexOf('(')));
        }
        for (Method method : TYPE.getDeclaredMethods()) {
            boolean isPrivate = Modifier.isPrivate(method.getModifiers());
            due.yes(method + " is private or of the face",
                isPrivate ? !faceNames.contains(method.getName()) : faceNames.contains(method.getName()));
            due.yes(method + " is private or public",
                isPrivate || Modifier.isPublic(method.getModifiers()));
        }
        for (Field field : TYPE.getDeclaredFields()) {
            due.yes(field + " is private", Modifier.isPrivate(field.getModifiers()));
            due.yes(field + " is of the object, or a constant", !Modifier.isStatic(field.getModifiers())
                || Modifier.isFinal(field.getModifiers()));
        }
        for (Class<?> inside : TYPE.getDeclaredClasses()) {
            int modifiers = inside.getModifiers();
            due.no(inside + " is public", Modifier.isPublic(modifiers));
            due.no(inside + " is protected", Modifier.isProtected(modifiers));
            due.yes(inside + " is static", Modifier.isStatic(modifiers));
        }
    }

    private static String text(Method method) {
        StringBuilder text = new StringBuilder();
        text.append(method.getReturnType()).append(' ').append(method.getName()).append('(');
        String comma = "";
        for (Class<?> parameter : method.getParameterTypes()) {
            text.append(comma).append(parameter);
            comma = ", ";
        }
        return text.append(')').toString();
    }
}
