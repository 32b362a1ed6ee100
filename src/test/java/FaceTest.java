import java.io.IOException;
import java.lang.reflect.Constructor;
import java.lang.reflect.Field;
import java.lang.reflect.Method;
import java.lang.reflect.Modifier;
import java.nio.file.Files;
import java.nio.file.Path;
import java.util.ArrayList;
import java.util.Arrays;
import java.util.List;
import java.util.Set;
import java.util.TreeSet;
import java.util.regex.Matcher;
import java.util.regex.Pattern;

/** The public face of the document, and those rules of LANGUAGE.md that can be seen from outside. */
public final class FaceTest {
    private static final Path SOURCE = Path.of("src/main/java/OutOrder.java");
    private static final Path DOCUMENT = Path.of("../shared/DOC.md");
    private static final String FACE_BEGINS = "public final class OutOrder {";
    private static final int METHODS = 29;
    private static final int LONGEST_METHOD = 60;
    private static final int MOST_CLASSES = 12;
    private static final int MOST_FIELDS = 20;
    private static final String[] FORBIDDEN = {
        "\\bthrow\\b", "\\btry\\b", "\\bcatch\\b", "\\bsynchronized\\b", "\\bassert\\b", "\\bimport\\b",
        "\\bpackage\\b", "->", "::", "\\bThrowable\\b", "Exact\\b", "\\bRandom\\b", "\\bThread\\b",
        "\\bSystem\\.(?!arraycopy)", "\\b(Integer|Math)\\.[A-Z]", "\\bprotected\\b", "\\bstatic\\s*\\{",
    };

    private final Checks checks = new Checks();
    /** The lines of the document's face, such as "public int at(int i)". */
    private final List<String> face;

    private FaceTest(List<String> face) {
        this.face = face;
    }

    public static void main(String[] args) throws IOException {
        FaceTest test = new FaceTest(documentFace());
        test.publicFace();
        test.hiddenMembers(OutOrder.class);
        for (Class<?> inside : OutOrder.class.getDeclaredClasses()) {
            test.insideClass(inside);
        }
        test.source(withoutComments(Files.readString(SOURCE)));
        test.checks.end();
    }

    private static List<String> documentFace() throws IOException {
        List<String> lines = Files.readAllLines(DOCUMENT);
        int begin = lines.indexOf(FACE_BEGINS);
        List<String> face = new ArrayList<>();
        for (int i = begin + 1; begin >= 0 && i < lines.size() && !lines.get(i).equals("}"); i++) {
            face.add(lines.get(i).strip().replace(";", ""));
        }
        return face;
    }

    /** Of "public int put(int u, int w)" the types alone: "int put(int,int)"; of the constructor "". */
    private static String withoutNames(String line) {
        Matcher parts = Pattern.compile("public (\\w+ \\w+)\\((.*)\\)").matcher(line);
        if (!parts.matches()) {
            return "";
        }
        String types = parts.group(2).replaceAll("(\\w+) \\w+", "$1").replace(" ", "");
        return parts.group(1) + "(" + types + ")";
    }

    private void publicFace() {
        checks.due("the document's face has the constructor", face.contains("public OutOrder()"), true);
        checks.due("methods of the document's face", face.size() - 1, METHODS);
        Set<String> want = new TreeSet<>();
        for (String line : face) {
            if (!withoutNames(line).isEmpty()) {
                want.add(withoutNames(line));
            }
        }
        Set<String> got = new TreeSet<>();
        for (Method m : OutOrder.class.getDeclaredMethods()) {
            if (!Modifier.isPrivate(m.getModifiers())) {
                got.add(signature(m));
                checks.due(m + " is public and no more", m.getModifiers(), Modifier.PUBLIC);
            }
        }
        checks.due("the public methods " + got + " are those of the document", got.equals(want), true);
        checks.due("the class is public and final", OutOrder.class.getModifiers(), Modifier.PUBLIC | Modifier.FINAL);
        checks.due("classes are few", OutOrder.class.getDeclaredClasses().length < MOST_CLASSES, true);
        Constructor<?>[] constructors = OutOrder.class.getDeclaredConstructors();
        checks.due("constructors", constructors.length, 1);
        checks.due("the constructor is public", constructors[0].getModifiers(), Modifier.PUBLIC);
        checks.due("the constructor's parameters", constructors[0].getParameterCount(), 0);
    }

    private static String signature(Method m) {
        StringBuilder text = new StringBuilder(m.getReturnType().getName()).append(' ').append(m.getName()).append('(');
        for (Class<?> type : m.getParameterTypes()) {
            text.append(text.charAt(text.length() - 1) == '(' ? "" : ",").append(type.getName());
        }
        return text.append(')').toString();
    }

    private boolean isPublicName(String name) {
        for (String line : face) {
            if (line.contains(" " + name + "(")) {
                return true;
            }
        }
        return false;
    }

    private void hiddenMembers(Class<?> type) {
        for (Field f : type.getDeclaredFields()) {
            checks.due(f + " is private", Modifier.isPrivate(f.getModifiers()), true);
        }
        staticFields(type);
        methods(type, type != OutOrder.class);
    }

    private void staticFields(Class<?> type) {
        for (Field f : type.getDeclaredFields()) {
            boolean changes = Modifier.isStatic(f.getModifiers()) && !Modifier.isFinal(f.getModifiers());
            checks.due(f + " is static and changes", changes, false);
        }
        long own = Arrays.stream(type.getDeclaredFields()).filter(f -> !Modifier.isStatic(f.getModifiers())).count();
        checks.due("fields of " + type + " are few", own <= MOST_FIELDS, true);
    }

    private void methods(Class<?> type, boolean inside) {
        for (Method m : type.getDeclaredMethods()) {
            boolean hidden = inside || Modifier.isPrivate(m.getModifiers());
            checks.due(m + " bears a public name", hidden && isPublicName(m.getName()), false);
            checks.due(m + " has at most seven parameters", m.getParameterCount() <= 7, true);
        }
    }

    private void insideClass(Class<?> inside) {
        checks.due(inside + " is static", Modifier.isStatic(inside.getModifiers()), true);
        checks.due(inside + " is hidden", Modifier.isPublic(inside.getModifiers()), false);
        checks.due(inside + " holds no class", inside.getDeclaredClasses().length, 0);
        staticFields(inside);
        methods(inside, true);
    }

    private static String withoutComments(String text) {
        return text.replaceAll("(?s)/\\*.*?\\*/", "").replaceAll("//[^\n]*", "");
    }

    private void source(String text) {
        for (String line : face) {
            checks.due("the source has, names and all, " + line, text.contains("\n    " + line + " {\n"), true);
        }
        for (String forbidden : FORBIDDEN) {
            checks.due("the source has " + forbidden, Pattern.compile(forbidden).matcher(text).find(), false);
        }
        int opened = -1;
        String[] lines = text.split("\n");
        for (int i = 0; i < lines.length; i++) {
            String line = lines[i];
            // Rows are made with the object and used again, so that a run's room does not fill.
            boolean makes = Pattern.compile("\\bnew\\b").matcher(line).find();
            checks.due("made in a call: " + line, makes && !line.strip().startsWith("private final "), false);
            if (line.matches(" {4}( {4})?\\S.*\\) \\{")) {
                opened = i;
            } else if (opened >= 0 && line.matches(" {4}( {4})?\\}")) {
                checks.due("lines of " + lines[opened], i - opened <= LONGEST_METHOD, true);
                opened = -1;
            }
        }
    }
}
