import java.lang.reflect.Constructor;
import java.lang.reflect.Field;
import java.lang.reflect.Method;
import java.lang.reflect.Modifier;
import java.util.Arrays;
import java.util.Set;
import java.util.TreeSet;

/** The document's face, as it is written there, and the first and fifth rule of LANGUAGE.md. */
public final class FaceTest {
    private static final String[] FACE = {
        "boolean type(long, int)",
        "int view(int, int) IndexOutOfBoundsException",
        "int put(int, int) IndexOutOfBoundsException IllegalArgumentException IllegalStateException",
        "int get(int) IndexOutOfBoundsException",
        "int remove(int) IndexOutOfBoundsException",
        "int size(int)",
        "int find(int, int) IndexOutOfBoundsException NoSuchElementException",
        "int at(int, int) IndexOutOfBoundsException NoSuchElementException",
        "int poll(int, boolean) IndexOutOfBoundsException NoSuchElementException",
        "int found(int)",
        "boolean iterate(int)",
        "int next(int) IndexOutOfBoundsException IllegalStateException NoSuchElementException",
        "int drop(int) IndexOutOfBoundsException IllegalStateException",
        "int match(int, int) IndexOutOfBoundsException IllegalArgumentException",
        "int edges(int) IndexOutOfBoundsException",
        "int freeze(int) IndexOutOfBoundsException",
        "int automaton(int)",
        "int insert(int) IndexOutOfBoundsException IllegalStateException",
        "int delete(int, int) IndexOutOfBoundsException",
        "int undo()",
        "int letter(int)",
        "int suffix(int, int)",
        "int locate(int)",
    };

    private static int wrong = 0;

    public static void main(String[] args) {
        Class<?> hall = KeyHall.class;
        expect("the class is public and final", hall.getModifiers(), Modifier.PUBLIC | Modifier.FINAL);
        expect("NONE", KeyHall.NONE, -1);
        constructors(hall);
        methods(hall);
        fields(hall);
        classesInside(hall);
        System.out.println(wrong == 0 ? "the face is the document's" : wrong + " faults in the face");
        if (wrong != 0) {
            System.exit(1);
        }
    }

    private static void constructors(Class<?> hall) {
        Constructor<?>[] constructors = hall.getDeclaredConstructors();
        expect("constructors", constructors.length, 1);
        expect("its modifiers", constructors[0].getModifiers(), Modifier.PUBLIC);
        expect("its parameters", constructors[0].getParameterCount(), 0);
    }

    private static void methods(Class<?> hall) {
        Set<String> open = new TreeSet<>();
        Set<String> names = new TreeSet<>();
        for (Method method : hall.getDeclaredMethods()) {
            if (!Modifier.isPrivate(method.getModifiers())) {
                expect("modifiers of " + method, method.getModifiers(), Modifier.PUBLIC);
                open.add(written(method));
                names.add(method.getName());
            }
        }
        expect("public methods", open, new TreeSet<>(Arrays.asList(FACE)));
        for (Method method : hall.getDeclaredMethods()) {
            if (Modifier.isPrivate(method.getModifiers())) {
                expect("a public one is named " + method, names.contains(method.getName()), false);
            }
        }
    }

    private static String written(Method method) {
        StringBuilder line = new StringBuilder(method.getReturnType().getSimpleName());
        line.append(" ").append(method.getName()).append("(");
        for (int i = 0; i < method.getParameterCount(); i++) {
            line.append(i == 0 ? "" : ", ").append(method.getParameterTypes()[i].getSimpleName());
        }
        line.append(")");
        for (Class<?> thrown : method.getExceptionTypes()) {
            line.append(" ").append(thrown.getSimpleName());
        }
        return line.toString();
    }

    private static void fields(Class<?> hall) {
        int open = 0;
        for (Field field : hall.getDeclaredFields()) {
            int modifiers = field.getModifiers();
            if (!Modifier.isPrivate(modifiers)) {
                open++;
                expect("an open field", field.getName(), "NONE");
                expect("its modifiers", modifiers,
                        Modifier.PUBLIC | Modifier.STATIC | Modifier.FINAL);
            }
            if (Modifier.isStatic(modifiers)) {
                expect("final is " + field.getName(), Modifier.isFinal(modifiers), true);
            }
        }
        expect("open fields", open, 1);
    }

    private static void classesInside(Class<?> hall) {
        for (Class<?> inside : hall.getDeclaredClasses()) {
            int modifiers = inside.getModifiers();
            expect("static is " + inside, Modifier.isStatic(modifiers), true);
            expect("open is " + inside,
                    Modifier.isPublic(modifiers) || Modifier.isProtected(modifiers), false);
        }
    }

    private static void expect(String what, Object got, Object want) {
        if (!got.equals(want)) {
            wrong++;
            System.out.println(what + ": is " + got + ", due is " + want);
        }
    }
}
