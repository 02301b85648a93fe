import java.lang.reflect.Constructor;
import java.lang.reflect.Field;
import java.lang.reflect.Method;
import java.lang.reflect.Modifier;
import java.util.Arrays;
import java.util.TreeSet;

/** The face is the document's and no more. */
public final class FaceTests {
    private static final String STATE = "IllegalStateException";
    private static final String ARGUMENT = "IllegalArgumentException";
    private static final Due due = new Due("FaceTests");

    public static void main(String[] args) {
        face();
        due.close();
    }

    private static TreeSet<String> documented() {
        TreeSet<String> face = new TreeSet<>();
        add(face, "void row", 4, ARGUMENT);
        add(face, "void family", 4, ARGUMENT);
        add(face, "int build", 1, ARGUMENT);
        add(face, "int give", 1, STATE, ARGUMENT);
        add(face, "void free", 1, STATE, ARGUMENT);
        add(face, "int change", 2, STATE, ARGUMENT);
        add(face, "int block", 2, STATE, ARGUMENT);
        add(face, "int path", 2, STATE, ARGUMENT);
        add(face, "void keep", 2, STATE, ARGUMENT);
        add(face, "int join", 0, STATE);
        add(face, "int nodes", 2, STATE, ARGUMENT);
        add(face, "int leaf", 2, STATE);
        add(face, "int count", 1, STATE);
        add(face, "int room", 1, STATE, ARGUMENT);
        add(face, "void load", 2, ARGUMENT);
        add(face, "int replay", 1, STATE, ARGUMENT);
        return face;
    }

    private static void add(TreeSet<String> face, String name, int ints, String... thrown) {
        face.add(name + " " + "int,".repeat(ints) + " " + Arrays.toString(thrown));
    }

    private static void face() {
        TreeSet<String> found = new TreeSet<>();
        TreeSet<String> names = new TreeSet<>();
        TreeSet<String> hidden = hiddenNames();
        for (Method method : BuddyRoof.class.getDeclaredMethods()) {
            if (Modifier.isPublic(method.getModifiers())) {
                found.add(described(method));
                names.add(method.getName());
            } else {
                due.same(method + " is private", "" + Modifier.isPrivate(method.getModifiers()), "true");
                hidden.add(method.getName());
            }
        }
        due.same("the face", found.toString(), documented().toString());
        hidden.retainAll(names);
        due.same("hidden methods with a public one's name", hidden.toString(), "[]");
        due.same("public and final", Modifier.toString(BuddyRoof.class.getModifiers()), "public final");
        Constructor<?>[] makers = BuddyRoof.class.getDeclaredConstructors();
        due.same("constructors", Arrays.toString(makers), "[public BuddyRoof()]");
        for (Field field : BuddyRoof.class.getDeclaredFields()) {
            due.same(field + " is private", "" + Modifier.isPrivate(field.getModifiers()), "true");
        }
    }

    private static String described(Method method) {
        StringBuilder text = new StringBuilder(method.getReturnType() + " " + method.getName() + " ");
        for (Class<?> type : method.getParameterTypes()) {
            text.append(type).append(',');
        }
        String[] thrown = Arrays.stream(method.getExceptionTypes()).map(Class::getSimpleName).toArray(String[]::new);
        return text + " " + Arrays.toString(thrown);
    }

    private static TreeSet<String> hiddenNames() {
        TreeSet<String> hidden = new TreeSet<>();
        for (Class<?> each : BuddyRoof.class.getDeclaredClasses()) {
            for (Method method : each.getDeclaredMethods()) {
                hidden.add(method.getName());
            }
        }
        return hidden;
    }
}
