import java.lang.reflect.Constructor;
import java.lang.reflect.Field;
import java.lang.reflect.Method;
import java.lang.reflect.Modifier;
import java.util.Arrays;
import java.util.List;
import java.util.TreeSet;
import java.util.stream.Collectors;

/** The public face of the document, and LANGUAGE.md's rules 1 and 5 as far as the compiled class tells them. */
final class FaceTest {
    private static final String SLOT = "IndexOutOfBoundsException";
    private static final String ARGUMENT = "IllegalArgumentException";
    private static final String STATE = "IllegalStateException";

    private static final List<String> FACE = List.of(
            "int begin(int, int) " + ARGUMENT,
            "int add(int, int, char) " + ARGUMENT + ", " + STATE,
            "int word(int, int, char) " + ARGUMENT + ", " + STATE,
            "int drop() ",
            "char sign(int) " + SLOT,
            "int parse(int) " + SLOT + ", " + ARGUMENT,
            "int triple(int, int, int, int) " + SLOT + ", " + ARGUMENT,
            "int copy(int, int) " + SLOT,
            "int size(int) " + SLOT,
            "char text(int, int) " + SLOT,
            "int tokens(int, int) " + SLOT + ", " + ARGUMENT,
            "int token(int, int, int) " + SLOT + ", " + ARGUMENT,
            "int compare(int, int) " + SLOT,
            "boolean isSame(int, int) " + SLOT,
            "int apart(int, int) " + SLOT,
            "int rank(int) " + SLOT,
            "int at(int) " + SLOT,
            "int sort() ",
            "int between(int, int) " + SLOT,
            "boolean zero(int, int) " + SLOT + ", " + STATE,
            "boolean longer(int, int, int) " + SLOT + ", " + ARGUMENT + ", " + STATE,
            "boolean early(int, char, int) " + SLOT + ", " + ARGUMENT + ", " + STATE,
            "int built(int, int, int) " + SLOT + ", " + ARGUMENT + ", " + STATE,
            "boolean isHashed(int) " + SLOT,
            "float wordShare() ",
            "long checksum() ",
            "boolean isTrue() ");

    public static void main(String[] args) {
        Class<?> ledger = Releaseledger.class;
        Check.due(Modifier.PUBLIC | Modifier.FINAL, "the class's modifiers", ledger::getModifiers);
        Check.due(new TreeSet<>(FACE), "the public methods", () -> publicMethods(ledger));
        Check.due("[public Releaseledger()]", "the constructors", () -> constructors(ledger));
        Check.due("[]", "members that are neither public nor private", () -> halfHidden(ledger));
        Check.due("[]", "private methods with a public one's name", () -> namesTwice(ledger));
        Check.due("[]", "static fields that are not final", () -> staticState(ledger));
        Check.due("[]", "classes inside that are not static or are public", () -> openClasses(ledger));
        Check.end("FaceTest");
    }

    private static String names(Class<?>[] types) {
        return Arrays.stream(types).map(Class::getSimpleName).collect(Collectors.joining(", "));
    }

    private static TreeSet<String> publicMethods(Class<?> ledger) {
        TreeSet<String> methods = new TreeSet<>();
        for (Method method : ledger.getDeclaredMethods()) {
            if (Modifier.isPublic(method.getModifiers())) {
                methods.add(method.getReturnType().getSimpleName() + " " + method.getName() + "("
                        + names(method.getParameterTypes()) + ") " + names(method.getExceptionTypes()));
            }
        }
        return methods;
    }

    private static String constructors(Class<?> ledger) {
        return Arrays.stream(ledger.getDeclaredConstructors()).map(Constructor::toString).sorted().toList().toString();
    }

    private static String halfHidden(Class<?> ledger) {
        TreeSet<String> members = new TreeSet<>();
        int told = Modifier.PUBLIC | Modifier.PRIVATE;
        for (Method method : ledger.getDeclaredMethods()) {
            if ((method.getModifiers() & told) == 0 && !method.isSynthetic()) {
                members.add(method.getName());
            }
        }
        for (Field field : ledger.getDeclaredFields()) {
            if (!Modifier.isPrivate(field.getModifiers())) {
                members.add(field.getName());
            }
        }
        return members.toString();
    }

    private static String namesTwice(Class<?> ledger) {
        TreeSet<String> names = new TreeSet<>();
        for (Method method : ledger.getDeclaredMethods()) {
            for (Method other : ledger.getDeclaredMethods()) {
                if (Modifier.isPrivate(method.getModifiers()) && Modifier.isPublic(other.getModifiers())
                        && method.getName().equals(other.getName())) {
                    names.add(method.getName());
                }
            }
        }
        return names.toString();
    }

    private static String staticState(Class<?> ledger) {
        TreeSet<String> fields = new TreeSet<>();
        for (Field field : ledger.getDeclaredFields()) {
            if (Modifier.isStatic(field.getModifiers()) && !Modifier.isFinal(field.getModifiers())) {
                fields.add(field.getName());
            }
        }
        return fields.toString();
    }

    private static String openClasses(Class<?> ledger) {
        TreeSet<String> classes = new TreeSet<>();
        for (Class<?> inside : ledger.getDeclaredClasses()) {
            if (Modifier.isPublic(inside.getModifiers()) || !Modifier.isStatic(inside.getModifiers())) {
                classes.add(inside.getSimpleName());
            }
        }
        return classes.toString();
    }
}
