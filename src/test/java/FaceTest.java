import java.io.IOException;
import java.lang.reflect.Constructor;
import java.lang.reflect.Field;
import java.lang.reflect.Method;
import java.lang.reflect.Modifier;
import java.nio.charset.StandardCharsets;
import java.nio.file.Files;
import java.nio.file.Path;
import java.util.ArrayList;
import java.util.Arrays;
import java.util.List;
import java.util.Set;
import java.util.TreeSet;
import java.util.stream.Collectors;

/** The public face, and what rules 1 and 5 of LANGUAGE.md say of the class's members. */
final class FaceTest {
    private static final String NO_ELEMENT = " throws NoSuchElementException";
    private static final String NO_ELEMENT_OR_ARGUMENT = NO_ELEMENT + ", IllegalArgumentException";
    private static final List<String> FACE = List.of(
            "boolean feed(long, int)",
            "int clear()",
            "int read()",
            "int entities()",
            "int look(int, int)" + NO_ELEMENT_OR_ARGUMENT,
            "int length(int, int, int)" + NO_ELEMENT_OR_ARGUMENT,
            "int letter(int, int, int, int)" + NO_ELEMENT_OR_ARGUMENT,
            "int content(int, int)" + NO_ELEMENT,
            "int boundary(int, int)" + NO_ELEMENT,
            "int write() throws IllegalStateException, UnsupportedOperationException",
            "int written(int)",
            "int again()");
    private static final Checks CHECKS = new Checks();

    private FaceTest() {
    }

    public static void main(String[] args) throws IOException {
        face();
        membersAreClosed();
        staticFieldsAreConstants();
        noNameOfTheFaceTwice();
        noForbiddenSigns();
        CHECKS.end();
    }

    private static String names(Class<?>[] types) {
        return Arrays.stream(types).map(Class::getSimpleName).collect(Collectors.joining(", "));
    }

    private static String shown(Method m) {
        String thrown = names(m.getExceptionTypes());
        return m.getReturnType().getSimpleName() + " " + m.getName() + "(" + names(m.getParameterTypes()) + ")"
                + (thrown.isEmpty() ? "" : " throws " + thrown);
    }

    private static void face() {
        CHECKS.same("modifiers", Modifier.toString(MailTree.class.getModifiers()), "public final");
        CHECKS.same("constructors", Arrays.stream(MailTree.class.getDeclaredConstructors())
                .map(Constructor::toGenericString).collect(Collectors.toList()), List.of("public MailTree()"));
        Set<String> due = new TreeSet<>(FACE);
        Set<String> got = new TreeSet<>();
        for (Method m : MailTree.class.getDeclaredMethods()) {
            if (!Modifier.isPrivate(m.getModifiers())) {
                CHECKS.same("public and not static: " + m.getName(), m.getModifiers(), Modifier.PUBLIC);
                got.add(shown(m));
            }
        }
        CHECKS.same("methods", got, due);
    }

    private static void membersAreClosed() {
        for (Field f : MailTree.class.getDeclaredFields()) {
            CHECKS.same("private: " + f.getName(), Modifier.isPrivate(f.getModifiers()), true);
        }
        for (Class<?> c : MailTree.class.getDeclaredClasses()) {
            int m = c.getModifiers();
            CHECKS.same("static: " + c.getName(), Modifier.isStatic(m), true);
            CHECKS.same("open: " + c.getName(), Modifier.isPublic(m) || Modifier.isProtected(m), false);
        }
    }

    private static List<Class<?>> allClasses() {
        List<Class<?>> all = new ArrayList<>(Arrays.asList(MailTree.class.getDeclaredClasses()));
        all.add(MailTree.class);
        return all;
    }

    private static void staticFieldsAreConstants() {
        for (Class<?> c : allClasses()) {
            for (Field f : c.getDeclaredFields()) {
                if (Modifier.isStatic(f.getModifiers())) {
                    CHECKS.same("final: " + f, Modifier.isFinal(f.getModifiers()), true);
                }
            }
        }
    }

    private static void noNameOfTheFaceTwice() {
        Set<String> names = Arrays.stream(MailTree.class.getDeclaredMethods())
                .filter(m -> Modifier.isPublic(m.getModifiers())).map(Method::getName).collect(Collectors.toSet());
        for (Class<?> c : allClasses()) {
            for (Method m : c.getDeclaredMethods()) {
                boolean own = c == MailTree.class && Modifier.isPublic(m.getModifiers());
                CHECKS.same("a name of its own: " + m, own || !names.contains(m.getName()), true);
                CHECKS.same("at most seven parameters: " + m, m.getParameterCount() <= 7, true);
            }
        }
    }

    private static void noForbiddenSigns() throws IOException {
        String program = Files.readString(Path.of("src/main/java/MailTree.java"), StandardCharsets.ISO_8859_1);
        for (String sign : new String[] {"->", "::", "try", "finally", "synchronized", "assert", "package "}) {
            CHECKS.same("no " + sign, program.contains(sign), false);
        }
        List<String> imports = program.lines().filter(l -> l.startsWith("import")).collect(Collectors.toList());
        CHECKS.same("imports", imports, List.of("import java.util.NoSuchElementException;"));
    }
}
