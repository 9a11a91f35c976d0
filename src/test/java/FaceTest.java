import java.lang.reflect.Constructor;
import java.lang.reflect.Field;
import java.lang.reflect.Method;
import java.lang.reflect.Modifier;
import java.util.Arrays;
import java.util.TreeSet;

/** The public face is the document's, and nothing else of the class can be seen (LANGUAGE 1, 5). */
final class FaceTest {
    private static final String[] METHODS = {
        "int add(int, int, int, int) IllegalArgumentException IllegalStateException",
        "void replace(int, int, int, int, int) IllegalArgumentException IndexOutOfBoundsException",
        "int clear()",
        "int size()",
        "int instruction(int, int) IllegalArgumentException IndexOutOfBoundsException",
        "void start(int, int) IllegalArgumentException",
        "int run(int) IllegalArgumentException",
        "int result(int)",
        "int live(int) IndexOutOfBoundsException",
        "int block(int) IndexOutOfBoundsException",
        "boolean same(int, int, int, int, int) IllegalArgumentException IndexOutOfBoundsException"
            + " UnsupportedOperationException",
        "int improve()",
        "int count(int)",
    };

    private static final Check check = new Check();

    public static void main(String[] args) {
        methods();
        fieldsAndConstructors();
        classesInside();
        check.end();
    }

    private static void methods() {
        TreeSet<String> found = new TreeSet<>();
        TreeSet<String> names = new TreeSet<>();
        for (Method method : RowImprover.class.getDeclaredMethods()) {
            if (!Modifier.isPrivate(method.getModifiers())) {
                found.add(written(method));
                names.add(method.getName());
            }
        }
        TreeSet<String> due = new TreeSet<>(Arrays.asList(METHODS));
        check.due("the methods " + found + " are those of the document", found.equals(due), true);
        for (Class<?> inside : RowImprover.class.getDeclaredClasses()) {
            for (Method method : inside.getDeclaredMethods()) {
                String which = inside.getSimpleName() + "." + method.getName();
                check.due(which + " bears a name of the face",
                        names.contains(method.getName()), false);
            }
        }
    }

    private static String written(Method method) {
        StringBuilder text = new StringBuilder();
        text.append(method.getReturnType().getName()).append(' ').append(method.getName());
        String types = Arrays.toString(method.getParameterTypes());
        text.append('(').append(types, 1, types.length() - 1).append(')');
        for (Class<?> thrown : method.getExceptionTypes()) {
            text.append(' ').append(thrown.getSimpleName());
        }
        return text.toString();
    }

    private static void fieldsAndConstructors() {
        check.due("modifiers", RowImprover.class.getModifiers(),
                Modifier.PUBLIC | Modifier.FINAL);
        for (Field field : RowImprover.class.getDeclaredFields()) {
            boolean isPrivate = Modifier.isPrivate(field.getModifiers());
            boolean isNone = field.getName().equals("NONE");
            check.due(field.getName() + " is private", isPrivate, !isNone);
        }
        check.due("NONE", RowImprover.NONE, -1);
        Constructor<?>[] constructors = RowImprover.class.getDeclaredConstructors();
        check.due("constructors", constructors.length, 1);
        check.due("parameters of it", constructors[0].getParameterCount(), 0);
        check.due("it is public", Modifier.isPublic(constructors[0].getModifiers()), true);
    }

    private static void classesInside() {
        Class<?>[] inside = RowImprover.class.getDeclaredClasses();
        check.due(inside.length + " classes inside are at most 11", inside.length <= 11, true);
        for (Class<?> one : inside) {
            String name = one.getSimpleName();
            check.due(name + " is static", Modifier.isStatic(one.getModifiers()), true);
            check.due(name + " is public or protected",
                    (one.getModifiers() & (Modifier.PUBLIC | Modifier.PROTECTED)) != 0, false);
            staticFieldsAreFinal(one);
        }
        staticFieldsAreFinal(RowImprover.class);
    }

    private static void staticFieldsAreFinal(Class<?> one) {
        for (Field field : one.getDeclaredFields()) {
            int modifiers = field.getModifiers();
            check.due(one.getSimpleName() + "." + field.getName() + " is state of the class",
                    Modifier.isStatic(modifiers) && !Modifier.isFinal(modifiers), false);
        }
    }
}
