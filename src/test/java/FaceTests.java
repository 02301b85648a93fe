import java.io.IOException;
import java.lang.reflect.Constructor;
import java.lang.reflect.Field;
import java.lang.reflect.Method;
import java.lang.reflect.Modifier;
import java.nio.file.Files;
import java.nio.file.Path;
import java.util.Arrays;
import java.util.TreeSet;
import java.util.regex.Pattern;

/** The face is the document's and no more, and the source keeps to those rules of LANGUAGE.md that can be read off. */
public final class FaceTests {
    private static final String STATE = "IllegalStateException";
    private static final String ARGUMENT = "IllegalArgumentException";
    private static final Due due = new Due("FaceTests");

    public static void main(String[] args) throws IOException {
        face();
        inside();
        source(Files.readString(Path.of("src/main/java/BuddyRoof.java")));
        due.close();
    }

    private static TreeSet<String> documented() {
        TreeSet<String> face = new TreeSet<>();
        add(face, "void row", 4, ARGUMENT);
        add(face, "void family", 4, ARGUMENT);
        add(face, "int build", 1, ARGUMENT);
        add(face, "int give", 1, STATE, ARGUMENT);
        add(face, "void free", 1, STATE, ARGUMENT);
        add(face, "int change", 2, STATE, ARGUMENT);
        add(face, "int block", 2, STATE, ARGUMENT);
        add(face, "int path", 2, STATE, ARGUMENT);
        add(face, "void keep", 2, STATE, ARGUMENT);
        add(face, "int join", 0, STATE);
        add(face, "int nodes", 2, STATE, ARGUMENT);
        add(face, "int leaf", 2, STATE);
        add(face, "int count", 1, STATE);
        add(face, "int room", 1, STATE, ARGUMENT);
        add(face, "void load", 2, ARGUMENT);
        add(face, "int replay", 1, STATE, ARGUMENT);
        return face;
    }

    private static void add(TreeSet<String> face, String name, int ints, String... thrown) {
        face.add(name + " " + "int,".repeat(ints) + " " + Arrays.toString(thrown));
    }

    private static void face() {
        TreeSet<String> found = new TreeSet<>();
        TreeSet<String> names = new TreeSet<>();
        TreeSet<String> hidden = new TreeSet<>();
        for (Method method : BuddyRoof.class.getDeclaredMethods()) {
            if (Modifier.isPublic(method.getModifiers())) {
                found.add(described(method));
                names.add(method.getName());
            } else {
                due.same(method + " is private", "" + Modifier.isPrivate(method.getModifiers()), "true");
                hidden.add(method.getName());
            }
        }
        due.same("the face", found.toString(), documented().toString());
        hidden.retainAll(names);
        due.same("private methods with a public one's name", hidden.toString(), "[]");
        due.same("public and final", Modifier.toString(BuddyRoof.class.getModifiers()), "public final");
        Constructor<?>[] makers = BuddyRoof.class.getDeclaredConstructors();
        due.same("constructors", Arrays.toString(makers), "[public BuddyRoof()]");
        for (Field field : BuddyRoof.class.getDeclaredFields()) {
            due.same(field + " is private", "" + Modifier.isPrivate(field.getModifiers()), "true");
        }
    }

    private static String described(Method method) {
        StringBuilder text = new StringBuilder(method.getReturnType() + " " + method.getName() + " ");
        for (Class<?> type : method.getParameterTypes()) {
            text.append(type).append(',');
        }
        String[] thrown = Arrays.stream(method.getExceptionTypes()).map(Class::getSimpleName).toArray(String[]::new);
        return text + " " + Arrays.toString(thrown);
    }

    private static void inside() {
        due.same("at most twelve classes", "" + (BuddyRoof.class.getDeclaredClasses().length < 12), "true");
        for (Class<?> each : BuddyRoof.class.getDeclaredClasses()) {
            due.same(each + " is static", "" + Modifier.isStatic(each.getModifiers()), "true");
            int fields = 0;
            for (Field field : each.getDeclaredFields()) {
                boolean constant = Modifier.isStatic(field.getModifiers());
                due.same(field + " is final", "" + (!constant || Modifier.isFinal(field.getModifiers())), "true");
                fields += constant ? 0 : 1;
            }
            due.same(each + " has at most twenty fields", "" + (fields <= 20), "true");
            for (Method method : each.getDeclaredMethods()) {
                due.same(method + " takes at most seven", "" + (method.getParameterCount() <= 7), "true");
            }
        }
    }

    private static void source(String text) {
        String code = text.replaceAll("//.*", "").replaceAll("(?s)/\\*.*?\\*/", "");
        for (String word : new String[] {"finally", "synchronized", "assert", "package", "static \\{", "::", "Exact\\(",
            "System\\.(?!arraycopy)", "getMessage", "(Throwable|Exception|Error) \\w+\\) \\{"}) {
            boolean found = Pattern.compile("(?<!\\w)" + word).matcher(code).find();
            due.same("'" + word + "' in the source", "" + found, "false");
        }
        for (String line : code.lines().toList()) {
            boolean arrow = line.contains("->") && !line.strip().matches("(case|default)\\b.*");
            due.same("a lambda in '" + line.strip() + "'", "" + arrow, "false");
        }
        for (String line : code.lines().filter(each -> each.startsWith("import")).toList()) {
            boolean listed = line.matches("import java\\.util\\.(Array(s|List)|List|Iterator|NoSuchElementException);");
            due.same("'" + line + "' is of the library", "" + listed, "true");
        }
    }
}
