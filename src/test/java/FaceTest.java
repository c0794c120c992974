import java.lang.reflect.Constructor;
import java.lang.reflect.Field;
import java.lang.reflect.Method;
import java.lang.reflect.Modifier;
import java.util.Arrays;
import java.util.List;
import java.util.Set;
import java.util.TreeSet;
import java.util.stream.Collectors;

/** The public face is the document's and nothing more (rules 1 and 5 of the language too). */
public final class FaceTest {
    private static final String A = "IllegalArgumentException";
    private static final String S = "IllegalStateException";
    private static final String N = "NoSuchElementException";

    private static final Set<String> FACE = new TreeSet<>(List.of(
            "preferred 6 " + A + " " + S,
            "issue 4 " + N + " " + A + " " + S,
            "transfer 4 " + N + " " + A + " " + S,
            "convert 3 " + N + " " + A + " " + S,
            "pool 1 " + A,
            "grant 4 " + N + " " + A + " " + S,
            "pass 1 " + A,
            "leave 1 " + N,
            "exercise 2 " + N + " " + A + " " + S,
            "vested 1 " + N,
            "granted 0",
            "held 2 " + N,
            "inIssue 1 " + N,
            "asConverted 0",
            "conversion 1 " + N,
            "set 1 " + A,
            "gets 3 " + A + " " + N,
            "brings 2 " + A + " " + N,
            "flip 2 " + A,
            "undo 0 " + S));

    public static void main(String[] args) {
        Check t = new Check();
        publicFinalClass(t);
        methods(t);
        fields(t);
        nestedClasses(t);
        t.end();
    }

    private static void publicFinalClass(Check t) {
        int modifiers = StableSale.class.getModifiers();
        if (!Modifier.isPublic(modifiers) || !Modifier.isFinal(modifiers)) {
            t.report("the class is not public and final");
        }
        Constructor<?>[] constructors = StableSale.class.getDeclaredConstructors();
        t.due(1, constructors.length);
        t.due(0, constructors[0].getParameterCount());
        t.due(Modifier.PUBLIC, constructors[0].getModifiers());
    }

    private static void methods(Check t) {
        Set<String> found = new TreeSet<>();
        for (Method method : StableSale.class.getDeclaredMethods()) {
            if (Modifier.isPrivate(method.getModifiers()) || method.isSynthetic()) {
                continue;
            }
            t.due(Modifier.PUBLIC, method.getModifiers());
            boolean ints = method.getReturnType() == int.class
                    && Arrays.stream(method.getParameterTypes()).allMatch(type -> type == int.class);
            if (!ints) {
                t.report(method + " has other types than int");
            }
            String thrown = Arrays.stream(method.getExceptionTypes()).map(type -> " " + type.getSimpleName())
                    .collect(Collectors.joining());
            found.add(method.getName() + " " + method.getParameterCount() + thrown);
        }
        if (!found.equals(FACE)) {
            t.report("the methods are " + found);
        }
    }

    private static void fields(Check t) {
        for (Field field : StableSale.class.getDeclaredFields()) {
            boolean secret = Modifier.isPrivate(field.getModifiers());
            if (!secret && !field.getName().equals("NONE")) {
                t.report(field + " can be seen");
            }
            if (Modifier.isStatic(field.getModifiers()) && !Modifier.isFinal(field.getModifiers())) {
                t.report(field + " is static state");
            }
        }
    }

    private static void nestedClasses(Check t) {
        Set<String> names = FACE.stream().map(line -> line.substring(0, line.indexOf(' '))).collect(Collectors.toSet());
        for (Class<?> nested : StableSale.class.getDeclaredClasses()) {
            int modifiers = nested.getModifiers();
            if (!Modifier.isStatic(modifiers) || Modifier.isPublic(modifiers) || Modifier.isProtected(modifiers)) {
                t.report(nested + " is seen or not static");
            }
            for (Method method : nested.getDeclaredMethods()) {
                if (names.contains(method.getName())) {
                    t.report(method + " bears the name of a public one");
                }
            }
        }
    }
}
