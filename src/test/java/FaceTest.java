import java.lang.reflect.Constructor;
import java.lang.reflect.Executable;
import java.lang.reflect.Field;
import java.lang.reflect.Method;
import java.lang.reflect.Modifier;
import java.nio.file.Files;
import java.nio.file.Path;
import java.util.Arrays;
import java.util.List;
import java.util.TreeSet;

/** The public face is the document's and nothing else, and the source holds none of the words LANGUAGE.md rules out. */
public final class FaceTest {
    private static final String[] FACE = {
        "VisitorSteps(int, int, int)",
        "boolean wall(int, int, boolean) IndexOutOfBoundsException",
        "int thing(int, int, int, int) IndexOutOfBoundsException IllegalArgumentException IllegalStateException",
        "int door(int, int) IndexOutOfBoundsException IllegalStateException",
        "int room(int) IllegalArgumentException",
        "int patience(int) IllegalArgumentException",
        "int arrives(int, int, int) IndexOutOfBoundsException IllegalArgumentException IllegalStateException",
        "int run(int) IllegalArgumentException",
        "int at(int, int) IndexOutOfBoundsException",
        "int about(int, int) IndexOutOfBoundsException",
        "int crowd(int, int) IndexOutOfBoundsException",
        "int stayed(int, int) IndexOutOfBoundsException",
        "int through(int, boolean) IndexOutOfBoundsException",
        "int seen(int) IndexOutOfBoundsException",
        "int far(int, int, int) IndexOutOfBoundsException",
        "int escape()",
        "void counted(int, int) IndexOutOfBoundsException IllegalArgumentException",
        "int sum()",
        "int fit(int) IllegalArgumentException",
        "int interest(int) IndexOutOfBoundsException",
        "int count(int) IndexOutOfBoundsException",
    };

    private static final String[] RULED_OUT = {
        "->", "::", "try", "catch", "finally", "synchronized", "assert", "Exact", "double", "float", "System.out",
        "Random", "Thread", "java.io", "java.nio", "package ",
    };

    private static final int MOST_CLASSES = 12;
    private static final int MOST_FIELDS = 20;
    private static final int MOST_PARAMETERS = 7;
    private static final int MOST_LINES = 60;
    private static final List<Class<?>> CONSTANTS = List.of(int.class, long.class, boolean.class, char.class, String.class,
        int[].class, long[].class, char[].class, byte[].class);

    private static int wrong = 0;

    public static void main(String[] args) throws Exception {
        members();
        shape(VisitorSteps.class);
        Class<?>[] inside = VisitorSteps.class.getDeclaredClasses();
        if (inside.length + 1 > MOST_CLASSES) {
            fault("too many classes: " + inside.length);
        }
        for (Class<?> one : inside) {
            int modifiers = one.getModifiers();
            if (!Modifier.isStatic(modifiers) || Modifier.isPublic(modifiers) || Modifier.isProtected(modifiers)) {
                fault("a class inside that is not static, or is seen outside: " + one);
            }
            shape(one);
        }
        source();
        System.out.println(wrong == 0 ? "the face is as due" : wrong + " faults of the face");
        if (wrong != 0) {
            System.exit(1);
        }
    }

    private static void fault(String text) {
        wrong++;
        System.out.println(text);
    }

    private static void members() throws Exception {
        Class<?> type = VisitorSteps.class;
        TreeSet<String> found = new TreeSet<>();
        for (Constructor<?> c : type.getDeclaredConstructors()) {
            add(found, c, "");
        }
        TreeSet<String> publicNames = new TreeSet<>();
        TreeSet<String> privateNames = new TreeSet<>();
        for (Method m : type.getDeclaredMethods()) {
            add(found, m, m.getReturnType().getSimpleName() + " ");
            (Modifier.isPrivate(m.getModifiers()) ? privateNames : publicNames).add(m.getName());
        }
        if (!found.equals(new TreeSet<>(List.of(FACE)))) {
            fault("the members are " + found);
        }
        privateNames.retainAll(publicNames);
        if (!privateNames.isEmpty()) {
            fault("private methods with names of the face: " + privateNames);
        }
        if (!Modifier.isFinal(type.getModifiers()) || !Modifier.isPublic(type.getModifiers())) {
            fault("the class is not public and final");
        }
        for (Field f : type.getDeclaredFields()) {
            if (!Modifier.isPrivate(f.getModifiers()) && !f.getName().equals("NONE")) {
                fault("a field beside the face: " + f);
            }
        }
        Field none = type.getField("NONE");
        if (none.getType() != int.class || none.getModifiers() != (Modifier.PUBLIC | Modifier.STATIC | Modifier.FINAL)) {
            fault("NONE is " + none);
        }
    }

    /** Rules 5 and 11 of LANGUAGE.md: what is static, and how large a class may be. */
    private static void shape(Class<?> type) {
        int fields = 0;
        for (Field f : type.getDeclaredFields()) {
            boolean isStatic = Modifier.isStatic(f.getModifiers());
            fields += isStatic ? 0 : 1;
            if (isStatic && (!Modifier.isFinal(f.getModifiers()) || !CONSTANTS.contains(f.getType()))) {
                fault("a static field that is no constant: " + f);
            }
        }
        if (fields > MOST_FIELDS) {
            fault(fields + " fields in " + type);
        }
        for (Method m : type.getDeclaredMethods()) {
            if (m.getParameterCount() > MOST_PARAMETERS) {
                fault("too many parameters: " + m);
            }
        }
    }

    private static void add(TreeSet<String> found, Executable e, String before) {
        if (Modifier.isPrivate(e.getModifiers()) || e.isSynthetic()) {
            return;
        }
        if (!Modifier.isPublic(e.getModifiers())) {
            fault("neither private nor public: " + e);
        }
        String types = Arrays.stream(e.getParameterTypes()).map(Class::getSimpleName).reduce((a, b) -> a + ", " + b).orElse("");
        StringBuilder text = new StringBuilder(before + e.getName() + "(" + types + ")");
        for (Class<?> thrown : e.getExceptionTypes()) {
            text.append(' ').append(thrown.getSimpleName());
        }
        found.add(text.toString());
    }

    private static void source() throws Exception {
        String text = Files.readString(Path.of("src/main/java/VisitorSteps.java"));
        for (String word : RULED_OUT) {
            boolean letters = Character.isLetter(word.charAt(0)) && Character.isLetter(word.charAt(word.length() - 1));
            String pattern = letters && !word.equals("Exact") ? "(?s).*\\b" + word + "\\b.*" : "(?s).*" + word + ".*";
            if (text.matches(pattern)) {
                fault("the source holds " + word);
            }
        }
        lengths(text.split("\n"));
        for (String line : text.split("\n")) {
            if (line.startsWith("import ") && !line.equals("import java.util.Arrays;")) {
                fault("the source holds " + line);
            }
        }
    }

    /** A method starts with a line that is indented as the line of its closing brace. */
    private static void lengths(String[] lines) {
        for (int start = 0; start < lines.length; start++) {
            String indent = lines[start].replaceAll("\\S.*", "");
            boolean member = indent.length() == 4 || indent.length() == 8;
            if (member && lines[start].matches("\\s+[\\w\\[\\]<> ]+\\(.*") && !lines[start].endsWith(";")) {
                int end = start;
                while (end < lines.length && !lines[end].equals(indent + "}")) {
                    end++;
                }
                if (end - start + 1 > MOST_LINES) {
                    fault(end - start + 1 + " lines from " + lines[start]);
                }
            }
        }
    }
}
