import java.lang.reflect.Constructor;
import java.lang.reflect.Field;
import java.lang.reflect.Method;
import java.lang.reflect.Modifier;
import java.util.List;
import java.util.Set;
import java.util.TreeSet;

/** The face of the class is that of the document, and nothing else can be seen of it. */
public final class FaceTest {
    private static final String ARGUMENT = "IllegalArgumentException";
    private static final String STATE = "IllegalStateException";
    private static final String ELEMENT = "NoSuchElementException";
    private static final String UNSUPPORTED = "UnsupportedOperationException";
    private static final String BOUNDS = "IndexOutOfBoundsException";

    private static final Set<String> FACE = new TreeSet<>(List.of(
            face("int create(int)", ARGUMENT, STATE),
            face("int remove(int)", ARGUMENT, ELEMENT),
            face("int restore(int)", ARGUMENT, ELEMENT),
            face("int copy(int, int)", ARGUMENT, ELEMENT, STATE),
            face("int extend(int)", ARGUMENT, ELEMENT, STATE, BOUNDS),
            face("int locate(int, int, int)", ARGUMENT, ELEMENT, BOUNDS),
            face("int write(int, int, int, int)", ARGUMENT, ELEMENT, STATE, UNSUPPORTED, BOUNDS),
            face("int append(int, int)", ARGUMENT, ELEMENT, STATE, UNSUPPORTED, BOUNDS),
            face("int read(int, int, int, int, int)", ARGUMENT, ELEMENT, STATE, UNSUPPORTED, BOUNDS),
            face("int up(int, boolean)", ARGUMENT),
            face("int report(int)", ARGUMENT, STATE),
            face("int repair()", ELEMENT),
            face("int sweep()"),
            face("double tick(double)", ARGUMENT),
            face("double load()", "ArithmeticException"),
            face("int look(int, int, int)", ARGUMENT, ELEMENT),
            face("int file(int, int)", ARGUMENT),
            face("int chunk(int, int)", ARGUMENT, ELEMENT)));

    private static final Faults FAULTS = new Faults();

    private static String face(String signature, String... exceptions) {
        return signature + " " + String.join(",", exceptions);
    }

    private static void checkMethods() {
        Set<String> seen = new TreeSet<>();
        Set<String> names = new TreeSet<>();
        for (Method method : Face.calls()) {
            seen.add(face(Face.signature(method), Face.exceptions(method).toArray(new String[0])));
            names.add(method.getName());
            FAULTS.expect(!Modifier.isStatic(method.getModifiers()), method + " is static");
        }
        FAULTS.expect(seen.equals(FACE), "the public methods are " + seen + ", due are " + FACE);
        for (Method method : ChunkStore.class.getDeclaredMethods()) {
            if (!Modifier.isPublic(method.getModifiers())) {
                FAULTS.expect(Modifier.isPrivate(method.getModifiers()), method + " can be seen");
                FAULTS.expect(!names.contains(method.getName()), method + " bears a public name");
            }
        }
    }

    private static void checkTheRest() {
        FAULTS.expect(Modifier.isFinal(ChunkStore.class.getModifiers()), "the class is not final");
        FAULTS.expect(Modifier.isPublic(ChunkStore.class.getModifiers()), "the class is not public");
        Constructor<?>[] constructors = ChunkStore.class.getDeclaredConstructors();
        FAULTS.expect(constructors.length == 1, "there is more than one constructor");
        FAULTS.expect(Modifier.isPublic(constructors[0].getModifiers()), "the constructor is not public");
        FAULTS.expect(constructors[0].getParameterCount() == 0, "the constructor takes something");
        for (Field field : ChunkStore.class.getDeclaredFields()) {
            FAULTS.expect(Modifier.isPrivate(field.getModifiers()), field + " can be seen");
            boolean lasting = Modifier.isFinal(field.getModifiers());
            FAULTS.expect(lasting || !Modifier.isStatic(field.getModifiers()), field + " is static state");
        }
    }

    public static void main(String[] args) {
        checkMethods();
        checkTheRest();
        FAULTS.finish();
    }
}
