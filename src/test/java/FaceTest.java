import java.io.IOException;
import java.lang.reflect.Constructor;
import java.lang.reflect.Field;
import java.lang.reflect.Method;
import java.lang.reflect.Modifier;
import java.nio.file.Files;
import java.nio.file.Path;
import java.util.ArrayList;
import java.util.Arrays;
import java.util.List;
import java.util.Set;
import java.util.TreeSet;
import java.util.regex.Matcher;
import java.util.regex.Pattern;

/** The class's public face, and the rules of LANGUAGE.md that can be read off the class or its source. */
public final class FaceTest {
    private static final Check CHECK = new Check();
    private static final Path SOURCE = Path.of("src/main/java/SymbolBench.java");
    private static final String[] METHODS = {
        "input(int, boolean)", "tell(int, int, int, int)", "clear()", "explore()", "path(int, int)",
        "decision(int, int)", "holds(int, int)", "value(int, int)", "find(int, int, int)", "run(int)", "ran(int)",
        "register(int)", "cell(int)", "failure(int, int)", "covered(int)", "count(int)"
    };

    public static void main(String[] args) throws IOException {
        publicFace();
        namesAreNotReused();
        nestedClasses();
        sizes();
        source(Files.readString(SOURCE));
        CHECK.finish();
    }

    private static void publicFace() {
        Class<?> face = SymbolBench.class;
        CHECK.isTrue("public and final", Modifier.isPublic(face.getModifiers()) && Modifier.isFinal(face.getModifiers()));
        CHECK.isTrue("no package", face.getPackageName().isEmpty());
        Set<String> methods = new TreeSet<>();
        for (Method method : face.getDeclaredMethods()) {
            if (!Modifier.isPrivate(method.getModifiers())) {
                CHECK.isTrue(method + " is public", Modifier.isPublic(method.getModifiers()));
                CHECK.isTrue(method + " answers an int", method.getReturnType() == int.class);
                CHECK.isTrue(method + " is no static one", !Modifier.isStatic(method.getModifiers()));
                methods.add(signature(method));
            }
        }
        CHECK.isTrue("the methods of the document, not " + methods, methods.equals(new TreeSet<>(Arrays.asList(METHODS))));
        Constructor<?>[] constructors = face.getDeclaredConstructors();
        CHECK.due("constructors", constructors.length, 1);
        CHECK.due("their parameters", constructors[0].getParameterCount(), 0);
        for (Field field : face.getDeclaredFields()) {
            boolean isConstant = field.getName().equals("NONE");
            CHECK.isTrue(field + " is as visible as it may be",
                isConstant ? Modifier.isPublic(field.getModifiers()) : Modifier.isPrivate(field.getModifiers()));
        }
    }

    private static String signature(Method method) {
        List<String> types = new ArrayList<>();
        for (Class<?> type : method.getParameterTypes()) {
            types.add(type.getName());
        }
        return method.getName() + "(" + String.join(", ", types) + ")";
    }

    private static List<Class<?>> allClasses() {
        List<Class<?>> all = new ArrayList<>(List.of(SymbolBench.class));
        all.addAll(Arrays.asList(SymbolBench.class.getDeclaredClasses()));
        return all;
    }

    private static void namesAreNotReused() {
        for (Class<?> one : allClasses()) {
            for (Method method : one.getDeclaredMethods()) {
                boolean isOfTheFace = Modifier.isPublic(method.getModifiers());
                for (String signature : METHODS) {
                    String name = signature.substring(0, signature.indexOf('('));
                    CHECK.isTrue(method + " has a name of its own", isOfTheFace || !method.getName().equals(name));
                }
                CHECK.isTrue(method + " is written, not made by the compiler", !method.isSynthetic());
            }
        }
    }

    private static void nestedClasses() {
        for (Class<?> nested : SymbolBench.class.getDeclaredClasses()) {
            int modifiers = nested.getModifiers();
            CHECK.isTrue(nested + " is static", Modifier.isStatic(modifiers));
            CHECK.isTrue(nested + " is hidden", !Modifier.isPublic(modifiers) && !Modifier.isProtected(modifiers));
        }
    }

    private static void sizes() {
        CHECK.isTrue("at most twelve classes", allClasses().size() <= 12);
        for (Class<?> one : allClasses()) {
            int fields = 0;
            for (Field field : one.getDeclaredFields()) {
                boolean isStatic = Modifier.isStatic(field.getModifiers());
                CHECK.isTrue(field + " is final if static", !isStatic || Modifier.isFinal(field.getModifiers()));
                fields += isStatic ? 0 : 1;
            }
            CHECK.isTrue(one + " has at most twenty fields", fields <= 20);
            for (Method method : one.getDeclaredMethods()) {
                CHECK.isTrue(method + " takes at most seven", method.getParameterCount() <= 7);
            }
        }
    }

    private static void source(String text) {
        String code = text.replaceAll("(?s)/\\*.*?\\*/", "").replaceAll("//[^\n]*", "");
        for (String word : new String[] {"throw", "throws", "try", "catch", "finally", "synchronized", "assert", "native",
            "volatile", "Object", "Thread"}) {
            CHECK.isTrue("no " + word, !Pattern.compile("\\b" + word + "\\b").matcher(code).find());
        }
        for (String sign : new String[] {"->", "::", "@", "Exact"}) {
            CHECK.isTrue("no " + sign, !code.contains(sign));
        }
        Matcher imports = Pattern.compile("import [^;]*;").matcher(code);
        while (imports.find()) {
            boolean isAllowed = imports.group().matches("import java\\.util\\.(Arrays|ArrayList|List|Iterator);");
            CHECK.isTrue(imports.group() + " is allowed", isAllowed);
        }
        Matcher calls = Pattern.compile("\\b(Arrays|System|Character|Boolean|Double|Float)\\.(\\w+)").matcher(code);
        Set<String> allowed = Set.of("Arrays.fill", "Arrays.copyOf", "Arrays.copyOfRange", "System.arraycopy");
        while (calls.find()) {
            CHECK.isTrue(calls.group() + " is allowed", allowed.contains(calls.group()));
        }
        methodsAreShort(code);
    }

    /** A method's head is a line that is indented by one or two steps and opens a body behind its parameters. */
    private static void methodsAreShort(String code) {
        Pattern head = Pattern.compile("( {4}| {8})(?!for|if|while|switch|else|\\})\\S.*\\) \\{");
        String[] lines = code.split("\n");
        int methods = 0;
        for (int from = 0; from < lines.length; from++) {
            Matcher matcher = head.matcher(lines[from]);
            if (matcher.matches()) {
                methods++;
                int to = from;
                while (to < lines.length && !lines[to].equals(matcher.group(1) + "}")) {
                    to++;
                }
                CHECK.isTrue("short: " + lines[from].trim(), to - from < 60);
            }
        }
        CHECK.isTrue("the source has methods", methods > METHODS.length);
    }
}
