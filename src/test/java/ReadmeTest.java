import java.io.IOException;
import java.lang.reflect.Method;
import java.lang.reflect.Modifier;
import java.nio.file.DirectoryStream;
import java.nio.file.Files;
import java.nio.file.Path;
import java.util.regex.Matcher;
import java.util.regex.Pattern;

/** README.md: that its example answers what it says, and that it names every call of the class and every test. */
public final class ReadmeTest {
    private static final Check CHECK = new Check();
    private static final Pattern EXAMPLE = Pattern.compile("```java\n(.*?)```", Pattern.DOTALL);
    private static final Pattern CALL = Pattern.compile("bench\\.(\\w+)\\((.*?)\\);\\s*// (-?\\d+)\\b");

    public static void main(String[] args) throws IOException, ReflectiveOperationException {
        String readme = Files.readString(Path.of("README.md"));
        exampleAnswersAsItSays(readme);
        everyCallIsNamed(readme);
        everyTestIsNamed(readme);
        CHECK.isTrue("how to run the tests", readme.contains("\n.ci/run\n"));
        CHECK.finish();
    }

    private static void exampleAnswersAsItSays(String readme) throws ReflectiveOperationException {
        Matcher example = EXAMPLE.matcher(readme);
        CHECK.isTrue("there is an example", example.find());
        SymbolBench bench = new SymbolBench();
        for (String line : example.group(1).split("\n")) {
            Matcher call = CALL.matcher(line);
            if (call.find()) {
                CHECK.due(line, answer(bench, call.group(1), call.group(2)), Integer.parseInt(call.group(3)));
            } else {
                CHECK.isTrue("has its answer behind it: " + line, !line.contains("bench."));
            }
        }
    }

    private static int answer(SymbolBench bench, String name, String list) throws ReflectiveOperationException {
        String[] words = list.isEmpty() ? new String[0] : list.split(", ");
        Method method = methodNamed(name);
        Object[] arguments = new Object[words.length];
        for (int i = 0; i < words.length; i++) {
            boolean isTruth = method.getParameterTypes()[i] == boolean.class;
            arguments[i] = isTruth ? (Object) Boolean.valueOf(words[i]) : (Object) Integer.valueOf(words[i]);
        }
        return (int) method.invoke(bench, arguments);
    }

    private static Method methodNamed(String name) throws NoSuchMethodException {
        for (Method method : SymbolBench.class.getDeclaredMethods()) {
            if (method.getName().equals(name)) {
                return method;
            }
        }
        throw new NoSuchMethodException(name);
    }

    private static void everyCallIsNamed(String readme) {
        for (Method method : SymbolBench.class.getDeclaredMethods()) {
            if (Modifier.isPublic(method.getModifiers())) {
                CHECK.isTrue("the table names " + method.getName(), readme.contains("`" + method.getName() + "("));
            }
        }
    }

    private static void everyTestIsNamed(String readme) throws IOException {
        try (DirectoryStream<Path> tests = Files.newDirectoryStream(Path.of("src/test/java"), "*Test.java")) {
            for (Path test : tests) {
                String name = test.getFileName().toString().replace(".java", "");
                CHECK.isTrue("the table names " + name, readme.contains("\n| " + name + " |"));
            }
        }
    }
}
