import java.lang.reflect.Constructor;
import java.lang.reflect.Field;
import java.lang.reflect.Method;
import java.lang.reflect.Modifier;
import java.util.Arrays;
import java.util.TreeSet;

/** The class's face is that of the document, nothing more and nothing less. */
public final class FaceTests {
    private static final String INDEX = "IndexOutOfBoundsException";
    private static final String ILLEGAL = "IllegalArgumentException";
    private static final String UNSUPPORTED = "UnsupportedOperationException";
    private static final String NO_SUCH = "NoSuchElementException";

    private static final String[] FACE = {
        "int feed(int int int int int)", "boolean end(int)",
        "int harbour() " + ILLEGAL + " " + UNSUPPORTED, "int law() " + ILLEGAL, "int fault()",
        "int now(int int) " + ILLEGAL, "int body(int int) " + INDEX + " " + NO_SUCH,
        "int spot(int int boolean int) " + INDEX + " " + NO_SUCH, "boolean seen(int int) " + INDEX,
        "int hider(int int) " + INDEX, "int charge(int) " + INDEX, "int charges(int) " + ILLEGAL,
        "int tide(int int) " + ILLEGAL,
        "int trace(int int int int int) " + INDEX + " " + ILLEGAL + " " + UNSUPPORTED,
        "int draw(int int) " + INDEX + " " + UNSUPPORTED, "int undo()", "int which(int) " + INDEX, "int slips()",
        "int places(int int int int) " + ILLEGAL + " " + NO_SUCH, "int when(int boolean) " + INDEX,
        "int paces(int int int int) " + INDEX + " " + ILLEGAL + " " + NO_SUCH,
        "int mark(int int int int boolean) " + INDEX + " " + ILLEGAL,
        "int setting(int int int) " + INDEX + " " + NO_SUCH, "int way(int) " + NO_SUCH,
        "int met(int int int) " + INDEX + " " + ILLEGAL, "void image()", "boolean back()", "int count(int)",
    };

    public static void main(String[] args) throws Exception {
        Class<?> face = WallHarbour.class;
        Check.same("the class", Modifier.toString(face.getModifiers()), "public final");
        Check.same("above it", face.getSuperclass().getName(), "java.lang.Object");
        Constructor<?>[] constructors = face.getDeclaredConstructors();
        Check.same("constructors", constructors.length, 1);
        Check.same("the constructor", Modifier.toString(constructors[0].getModifiers()), "public");
        Check.same("its arguments", constructors[0].getParameterCount(), 0);
        methods(face);
        fields(face);
        classesInside(face);
        Check.finish("FaceTests");
    }

    private static void methods(Class<?> face) {
        TreeSet<String> got = new TreeSet<>();
        for (Method method : face.getDeclaredMethods()) {
            int modifiers = method.getModifiers();
            if (Modifier.isPrivate(modifiers)) {
                for (String row : FACE) {
                    Check.tell(!row.contains(" " + method.getName() + "("), "a private method bears a public name: " + method);
                }
            } else {
                Check.same("of " + method, Modifier.toString(modifiers), "public");
                got.add(row(method));
            }
        }
        Check.same("the face", got.toString(), new TreeSet<>(Arrays.asList(FACE)).toString());
    }

    private static String row(Method method) {
        StringBuilder row = new StringBuilder(method.getReturnType().getSimpleName());
        row.append(' ').append(method.getName()).append('(');
        for (Class<?> type : method.getParameterTypes()) {
            row.append(row.charAt(row.length() - 1) == '(' ? "" : " ").append(type.getSimpleName());
        }
        row.append(')');
        for (Class<?> type : method.getExceptionTypes()) {
            row.append(' ').append(type.getSimpleName());
        }
        return row.toString();
    }

    private static void fields(Class<?> face) throws IllegalAccessException {
        for (Field field : face.getDeclaredFields()) {
            int modifiers = field.getModifiers();
            if (field.getName().equals("NONE")) {
                Check.same("NONE", Modifier.toString(modifiers) + " " + field.getType() + " " + field.get(null),
                        "public static final int -1");
            } else {
                Check.tell(Modifier.isPrivate(modifiers), "not private: " + field);
            }
        }
    }

    private static void classesInside(Class<?> face) {
        Check.tell(face.getDeclaredClasses().length <= 15, "more than some twelve classes");
        for (Class<?> inside : face.getDeclaredClasses()) {
            int modifiers = inside.getModifiers();
            Check.tell(Modifier.isStatic(modifiers) && !Modifier.isPublic(modifiers) && !Modifier.isProtected(modifiers),
                    "not as it should be: " + inside);
            for (Field field : inside.getDeclaredFields()) {
                int kind = field.getModifiers();
                Check.tell(!Modifier.isStatic(kind) || Modifier.isFinal(kind), "static state: " + field);
            }
        }
    }
}
