import java.io.IOException;
import java.lang.reflect.Method;
import java.lang.reflect.Modifier;
import java.net.URL;
import java.net.URLClassLoader;
import java.nio.file.Files;
import java.nio.file.Path;
import java.util.ArrayList;
import java.util.List;
import java.util.regex.Matcher;
import java.util.regex.Pattern;
import java.util.stream.Collectors;
import java.util.stream.Stream;
import javax.tools.JavaCompiler;
import javax.tools.ToolProvider;

/**
 * README.md: its example is compiled as it stands there, and each call of it has to answer what stands
 * behind it; the face, the 512 calls and the tests are told.
 */
public final class ReadmeTest {
    private static final Due due = new Due();
    private static final Path ROOM = Path.of("build", "readme");
    private static final String EXAMPLE = "ReadmeExample";
    /** Spaces, a result's type and name or none, a call, and the answer behind it. */
    private static final Pattern ANSWERED = Pattern.compile(
        "(\\s*)((?:int|long|boolean) \\w+ = )?(x\\.\\w+\\(.*\\));\\s*// (-?\\d+|true|false)(?::.*)?");

    public static void main(String[] args) throws Exception {
        String readme = Files.readString(Path.of("README.md"));
        List<String> example = exampleOf(readme);
        due.test("the calls of the example answer what stands behind them", () -> answers(example));
        due.test("each call stands in the example with an answer", () -> eachCallIsUsed(example));
        due.test("each call is told", () -> eachCallIsTold(readme));
        due.test("the 512 calls are told", () -> due.yes("at most 512 calls",
            readme.contains("An object is used for at most 512 calls")));
        due.test("the tests are told", () -> testsAreTold(readme));
        due.end();
    }

    private static List<String> exampleOf(String readme) {
        String behindHead = readme.substring(readme.indexOf("\n## Example\n"));
        int start = behindHead.indexOf("```java\n") + "```java\n".length();
        return behindHead.substring(start, behindHead.indexOf("```", start)).lines().toList();
    }

    /** The example's lines, in which each call hands its answer on together with the one due. */
    private static String source(List<String> example) {
        StringBuilder source = new StringBuilder("public final class " + EXAMPLE + " {\n"
            + "static void told(java.util.List<String> all, String call, Object got, String want) {\n"
            + "all.add(call); all.add(String.valueOf(got)); all.add(want); }\n"
            + "public static void main(java.util.List<String> all) {\n");
        for (String line : example) {
            Matcher answered = ANSWERED.matcher(line);
            if (!answered.matches()) {
                source.append(line).append('\n');
                continue;
            }
            String call = answered.group(3);
            String want = answered.group(4);
            String result = call;
            if (answered.group(2) != null) {
                source.append(answered.group(2)).append(call).append(";\n");
                result = answered.group(2).split(" ")[1];
            }
            source.append("told(all, \"").append(call).append("\", ").append(result).append(", \"")
                .append(want).append("\");\n");
        }
        return source.append("}\n}\n").toString();
    }

    private static void answers(List<String> example) {
        List<String> told = new ArrayList<>();
        try {
            compiled(example).getMethod("main", List.class).invoke(null, told);
        } catch (IOException | ReflectiveOperationException thrown) {
            throw new IllegalStateException(thrown);
        }
        for (int k = 0; k + 2 < told.size(); k += 3) {
            due.sameText("README.md: " + told.get(k), told.get(k + 1), told.get(k + 2));
        }
        due.yes("no more than 512 calls in the example", told.size() / 3 <= 512);
    }

    private static Class<?> compiled(List<String> example) throws IOException,
            ClassNotFoundException {
        Files.createDirectories(ROOM);
        Path file = ROOM.resolve(EXAMPLE + ".java");
        Files.writeString(file, source(example));
        JavaCompiler javac = ToolProvider.getSystemJavaCompiler();
        int code = javac.run(null, System.out, System.out, "--release", "17", "-cp",
            System.getProperty("java.class.path"), "-d", ROOM.toString(), file.toString());
        due.same("exit code of javac for the example", code, 0);
        return new URLClassLoader(new URL[] {ROOM.toUri().toURL()}).loadClass(EXAMPLE);
    }

    private static void eachCallIsUsed(List<String> example) {
        for (Method method : face()) {
            String use = "x." + method.getName() + "(";
            due.yes(use + "..) has an answer in the example", example.stream()
                .anyMatch(line -> line.contains(use) && ANSWERED.matcher(line).matches()));
        }
        for (String line : example) {
            boolean calls = line.contains("x.");
            due.same("an answer stands behind: " + line.strip(),
                ANSWERED.matcher(line).matches() ? 1 : 0, calls ? 1 : 0);
        }
    }

    private static void eachCallIsTold(String readme) {
        due.yes("the constructor", readme.contains("`new CycleGroups(places)`"));
        for (Method method : face()) {
            String types = Stream.of(method.getParameterTypes()).map(Class::getName)
                .collect(Collectors.joining(" \\w+, ")) + (method.getParameterCount() > 0 ? " \\w+" : "");
            Pattern row = Pattern.compile("^\\| `" + method.getReturnType() + " " + method.getName()
                + "\\(" + types + "\\)` \\| \\w.*\\. \\|$", Pattern.MULTILINE);
            due.same("rows that tell " + method.getName(), row.matcher(readme).results().count(), 1);
        }
    }

    private static List<Method> face() {
        return Stream.of(CycleGroups.class.getDeclaredMethods())
            .filter(method -> Modifier.isPublic(method.getModifiers())).toList();
    }

    private static void testsAreTold(String readme) {
        due.yes("how they are run", readme.contains(".ci/run"));
        try (Stream<Path> files = Files.list(Path.of("src", "test", "java"))) {
            List<String> names = files.map(file -> file.getFileName().toString().replace(".java", ""))
                // Those between the first and the last promise are told by these two.
                .filter(name -> !name.matches("Edges[01][0-9].*")).toList();
            for (String name : names) {
                due.yes(name + " is told", readme.contains("`" + name + "`"));
            }
        } catch (IOException thrown) {
            throw new IllegalStateException(thrown);
        }
    }
}
