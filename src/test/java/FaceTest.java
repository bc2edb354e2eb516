import java.lang.reflect.Constructor;
import java.lang.reflect.Field;
import java.lang.reflect.Method;
import java.lang.reflect.Modifier;
import java.util.ArrayList;
import java.util.List;
import java.util.Set;
import java.util.TreeSet;

/** The face of the class is that of the document, and nothing else can be seen of it. */
public final class FaceTest {
    private static final String ARGUMENT = "IllegalArgumentException";
    private static final String STATE = "IllegalStateException";
    private static final String ELEMENT = "NoSuchElementException";
    private static final String UNSUPPORTED = "UnsupportedOperationException";
    private static final String BOUNDS = "IndexOutOfBoundsException";

    private static final Set<String> FACE = new TreeSet<>(List.of(
            face("int create(int)", ARGUMENT, STATE),
            face("int remove(int)", ARGUMENT, ELEMENT),
            face("int restore(int)", ARGUMENT, ELEMENT),
            face("int copy(int,int)", ARGUMENT, ELEMENT, STATE),
            face("int extend(int)", ARGUMENT, ELEMENT, STATE, BOUNDS),
            face("int locate(int,int,int)", ARGUMENT, ELEMENT, BOUNDS),
            face("int write(int,int,int,int)", ARGUMENT, ELEMENT, STATE, UNSUPPORTED, BOUNDS),
            face("int append(int,int)", ARGUMENT, ELEMENT, STATE, UNSUPPORTED, BOUNDS),
            face("int read(int,int,int,int,int)", ARGUMENT, ELEMENT, STATE, UNSUPPORTED, BOUNDS),
            face("int up(int,boolean)", ARGUMENT),
            face("int report(int)", ARGUMENT, STATE),
            face("int repair()", ELEMENT),
            face("int sweep()"),
            face("double tick(double)", ARGUMENT),
            face("double load()", "ArithmeticException"),
            face("int look(int,int,int)", ARGUMENT, ELEMENT),
            face("int file(int,int)", ARGUMENT),
            face("int chunk(int,int)", ARGUMENT, ELEMENT)));

    private static final List<String> WRONG = new ArrayList<>();

    private static String face(String signature, String... exceptions) {
        return signature + " " + String.join(",", exceptions);
    }

    private static String face(Method method) {
        List<String> types = new ArrayList<>();
        for (Class<?> type : method.getParameterTypes()) {
            types.add(type.getSimpleName());
        }
        List<String> exceptions = new ArrayList<>();
        for (Class<?> exception : method.getExceptionTypes()) {
            exceptions.add(exception.getSimpleName());
        }
        String signature =
                method.getReturnType() + " " + method.getName() + "(" + String.join(",", types) + ")";
        return face(signature, exceptions.toArray(new String[0]));
    }

    private static void expect(boolean holds, String otherwise) {
        if (!holds) {
            WRONG.add(otherwise);
        }
    }

    private static void checkMethods() {
        Set<String> seen = new TreeSet<>();
        Set<String> publicNames = new TreeSet<>();
        List<String> privateNames = new ArrayList<>();
        for (Method method : ChunkStore.class.getDeclaredMethods()) {
            if (Modifier.isPublic(method.getModifiers())) {
                seen.add(face(method));
                publicNames.add(method.getName());
                expect(!Modifier.isStatic(method.getModifiers()), method + " is static");
            } else {
                expect(Modifier.isPrivate(method.getModifiers()), method + " can be seen");
                privateNames.add(method.getName());
            }
        }
        expect(seen.equals(FACE), "the public methods are " + seen + ", due are " + FACE);
        for (String name : privateNames) {
            expect(!publicNames.contains(name), "a private method bears the public name " + name);
        }
    }

    private static void checkTheRest() {
        expect(Modifier.isFinal(ChunkStore.class.getModifiers()), "the class is not final");
        expect(Modifier.isPublic(ChunkStore.class.getModifiers()), "the class is not public");
        Constructor<?>[] constructors = ChunkStore.class.getDeclaredConstructors();
        expect(constructors.length == 1, "there is more than one constructor");
        expect(Modifier.isPublic(constructors[0].getModifiers()), "the constructor is not public");
        expect(constructors[0].getParameterCount() == 0, "the constructor takes something");
        for (Field field : ChunkStore.class.getDeclaredFields()) {
            expect(Modifier.isPrivate(field.getModifiers()), field + " can be seen");
            boolean lasting = Modifier.isFinal(field.getModifiers());
            expect(lasting || !Modifier.isStatic(field.getModifiers()), field + " is static state");
        }
    }

    public static void main(String[] args) {
        checkMethods();
        checkTheRest();
        for (String line : WRONG) {
            System.out.println(line);
        }
        System.out.println(WRONG.isEmpty() ? "the face is as due" : WRONG.size() + " faults of the face");
        if (!WRONG.isEmpty()) {
            System.exit(1);
        }
    }
}
