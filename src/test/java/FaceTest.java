import java.lang.reflect.Constructor;
import java.lang.reflect.Field;
import java.lang.reflect.Member;
import java.lang.reflect.Method;
import java.lang.reflect.Modifier;
import java.util.Arrays;
import java.util.Set;
import java.util.TreeSet;
import java.util.stream.Collectors;
import java.util.stream.Stream;

/** The public face of the document, and rule 1 of LANGUAGE.md: this and nothing else can be seen from outside. */
public final class FaceTest {
    private static final String BOUNDS = " throws IndexOutOfBoundsException";
    private static final String ARGUMENT = "IllegalArgumentException";

    public static void main(String[] args) {
        Probe.same("the class", "public final", Modifier.toString(GameArbiter.class.getModifiers()));
        Probe.same("what can be seen", due(), seen());
        Probe.same("private methods with a public name", new TreeSet<String>(), namedAlike());
        Probe.same("static fields that are not final", new TreeSet<String>(), openStatics());
        Probe.end();
    }

    private static Set<String> due() {
        return new TreeSet<>(Set.of(
                "public static final int NONE",
                "public GameArbiter()",
                "public boolean squares(int, long)",
                "public int begin(int, int, boolean, int) throws " + ARGUMENT,
                "public int next(int, int, boolean, boolean) throws IllegalStateException, " + ARGUMENT,
                "public boolean back()",
                "public int verdict()",
                "public int of(int, int)" + BOUNDS,
                "public long men(int, int)" + BOUNDS,
                "public int times(int) throws " + ARGUMENT,
                "public int look(int)"));
    }

    private static Set<String> seen() {
        Class<?> face = GameArbiter.class;
        Set<String> seen = new TreeSet<>();
        for (Field field : face.getDeclaredFields()) {
            if (!isPrivate(field)) {
                seen.add(Modifier.toString(field.getModifiers()) + " " + field.getType() + " " + field.getName());
            }
        }
        for (Constructor<?> made : face.getDeclaredConstructors()) {
            if (!isPrivate(made)) {
                seen.add("public GameArbiter" + listed(made.getParameterTypes(), "(", ")"));
            }
        }
        for (Method method : face.getDeclaredMethods()) {
            if (!isPrivate(method)) {
                seen.add(Modifier.toString(method.getModifiers()) + " " + method.getReturnType() + " "
                        + method.getName() + listed(method.getParameterTypes(), "(", ")") + thrown(method));
            }
        }
        return seen;
    }

    private static String thrown(Method method) {
        return method.getExceptionTypes().length == 0 ? "" : listed(method.getExceptionTypes(), " throws ", "");
    }

    private static String listed(Class<?>[] types, String before, String behind) {
        return Arrays.stream(types).map(Class::getSimpleName).collect(Collectors.joining(", ", before, behind));
    }

    private static boolean isPrivate(Member member) {
        return Modifier.isPrivate(member.getModifiers());
    }

    private static Set<String> namedAlike() {
        Set<String> open = methods().filter(m -> !isPrivate(m)).map(Method::getName).collect(Collectors.toSet());
        return methods().filter(FaceTest::isPrivate).map(Method::getName).filter(open::contains)
                .collect(Collectors.toCollection(TreeSet::new));
    }

    private static Stream<Method> methods() {
        return Arrays.stream(GameArbiter.class.getDeclaredMethods());
    }

    private static Set<String> openStatics() {
        return Arrays.stream(GameArbiter.class.getDeclaredFields())
                .filter(f -> Modifier.isStatic(f.getModifiers()) && !Modifier.isFinal(f.getModifiers()))
                .map(Field::getName).collect(Collectors.toCollection(TreeSet::new));
    }
}
