import java.io.IOException;
import java.lang.reflect.Constructor;
import java.lang.reflect.Executable;
import java.lang.reflect.Field;
import java.lang.reflect.Member;
import java.lang.reflect.Method;
import java.lang.reflect.Modifier;
import java.nio.file.Path;
import java.util.Arrays;
import java.util.List;
import java.util.Set;
import java.util.TreeSet;
import java.util.regex.Matcher;
import java.util.regex.Pattern;
import java.util.stream.Collectors;
import java.util.stream.Stream;

/** The public face as the document's code block has it, and rule 1 of LANGUAGE.md: nothing else can be seen. */
public final class FaceTest {
    private static final Class<?> FACE = GameArbiter.class;

    /** The path of the document is the second argument. */
    public static void main(String[] args) throws IOException, IllegalAccessException {
        List<String> block = Texts.javaBlock(Path.of(args[1]));
        String name = Modifier.toString(FACE.getModifiers()) + " class " + FACE.getName() + " {";
        Probe.same("the class", block.isEmpty() ? "a code block" : block.get(0), name);
        Probe.same("the class above it", Object.class, FACE.getSuperclass());
        Probe.same("what can be seen", due(block), seen());
        Probe.same("private methods with a public name", new TreeSet<String>(), namedAlike());
        Probe.same("static fields that are not final", new TreeSet<String>(), openStatics());
        Probe.end();
    }

    /** The members of the block, without the names of their parameters, which no class file keeps. */
    private static Set<String> due(List<String> block) {
        return block.stream().map(String::strip).filter(line -> line.endsWith(";"))
                .map(line -> line.substring(0, line.length() - 1)).map(FaceTest::withoutNames)
                .collect(Collectors.toCollection(TreeSet::new));
    }

    private static String withoutNames(String member) {
        Matcher parameters = Pattern.compile("\\(.*\\)").matcher(member);
        return parameters.replaceFirst(found -> found.group().replaceAll(" \\w+(?=[,)])", ""));
    }

    private static Set<String> seen() throws IllegalAccessException {
        Set<String> seen = new TreeSet<>();
        for (Field field : FACE.getDeclaredFields()) {
            if (!isPrivate(field)) {
                seen.add(Modifier.toString(field.getModifiers()) + " " + field.getType() + " " + field.getName()
                        + (Modifier.isStatic(field.getModifiers()) ? " = " + field.get(null) : ""));
            }
        }
        for (Constructor<?> made : FACE.getDeclaredConstructors()) {
            if (!isPrivate(made)) {
                seen.add(Modifier.toString(made.getModifiers()) + " " + made.getName()
                        + listed(made.getParameterTypes(), "(", ")") + thrown(made));
            }
        }
        for (Method method : FACE.getDeclaredMethods()) {
            if (!isPrivate(method)) {
                seen.add(Modifier.toString(method.getModifiers()) + " " + method.getReturnType() + " "
                        + method.getName() + listed(method.getParameterTypes(), "(", ")") + thrown(method));
            }
        }
        return seen;
    }

    private static String thrown(Executable method) {
        return method.getExceptionTypes().length == 0 ? "" : listed(method.getExceptionTypes(), " throws ", "");
    }

    private static String listed(Class<?>[] types, String before, String behind) {
        return Arrays.stream(types).map(Class::getSimpleName).collect(Collectors.joining(", ", before, behind));
    }

    private static boolean isPrivate(Member member) {
        return Modifier.isPrivate(member.getModifiers());
    }

    private static Set<String> namedAlike() {
        Set<String> open = methods().filter(m -> !isPrivate(m)).map(Method::getName).collect(Collectors.toSet());
        return methods().filter(FaceTest::isPrivate).map(Method::getName).filter(open::contains)
                .collect(Collectors.toCollection(TreeSet::new));
    }

    private static Stream<Method> methods() {
        return Arrays.stream(FACE.getDeclaredMethods());
    }

    private static Set<String> openStatics() {
        return Arrays.stream(FACE.getDeclaredFields())
                .filter(f -> Modifier.isStatic(f.getModifiers()) && !Modifier.isFinal(f.getModifiers()))
                .map(Field::getName).collect(Collectors.toCollection(TreeSet::new));
    }
}
