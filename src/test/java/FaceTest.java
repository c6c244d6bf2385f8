import java.io.IOException;
import java.lang.reflect.Constructor;
import java.lang.reflect.Field;
import java.lang.reflect.Method;
import java.lang.reflect.Modifier;
import java.nio.file.Files;
import java.nio.file.Path;
import java.util.ArrayList;
import java.util.Arrays;
import java.util.HashSet;
import java.util.List;
import java.util.Set;
import java.util.TreeSet;

/** The face of the document, and those of LANGUAGE.md's rules that can be seen from outside or in the text. */
public final class FaceTest {
    private static final Due D = new Due();
    private static final String[] FACE = {
        "int feed(int, int, int, int, int)", "int rules(int)", "int fault(int)", "int kin(int, int, int, int, boolean)",
        "boolean change(int, int, int)", "int note(int, int, int, int)", "int strike(int)", "int near(int, int, int, int)",
        "int told(int, int, int, int, int)", "int years(int)", "boolean miles(int, int, int)", "int option(int, int)",
        "boolean regret(int, int, int)", "int flight(int, int, int, int, int)", "int travel(int, int)", "long score(int)",
        "int judged(int, int)", "int choice()", "int ring()", "int meet(int)", "boolean guest(int, boolean)", "int room(int)",
        "boolean feud(int, int, boolean)", "boolean price(int, int)", "int bed()", "int bedded(int)", "int table(int)", "int meal()",
        "int seated(int, int)", "int receipt(int, int)", "long owes(int, int)", "int settle()", "int payment(int, int)", "int host()",
        "int end()", "int branch(int, int)", "int count(int)"};

    public static void main(String[] args) throws IOException {
        face();
        names();
        text();
        D.end();
    }

    private static String told(Method m) {
        List<String> types = new ArrayList<>();
        for (Class<?> t : m.getParameterTypes()) {
            types.add(t.getName());
        }
        return m.getReturnType().getName() + " " + m.getName() + "(" + String.join(", ", types) + ")";
    }

    private static void face() {
        D.part("the face");
        Class<?> c = KinMeet.class;
        D.due("public and final", Modifier.isPublic(c.getModifiers()) && Modifier.isFinal(c.getModifiers()), true);
        Set<String> open = new TreeSet<>();
        for (Method m : c.getDeclaredMethods()) {
            if (!Modifier.isPrivate(m.getModifiers()) && !m.isSynthetic()) {
                open.add(told(m));
                D.due(m + " is public and no static one", Modifier.isPublic(m.getModifiers()) && !Modifier.isStatic(m.getModifiers()), true);
            }
        }
        D.due("methods " + open, open.equals(new TreeSet<>(Arrays.asList(FACE))), true);
        for (Constructor<?> k : c.getDeclaredConstructors()) {
            D.due("constructor " + k, Modifier.isPublic(k.getModifiers()) && k.getParameterCount() == 0, true);
        }
        for (Field f : c.getDeclaredFields()) {
            D.due("field " + f, Modifier.isPrivate(f.getModifiers()) || f.getName().equals("NONE"), true);
        }
        D.due("NONE", KinMeet.NONE, -1);
        for (Class<?> inner : c.getDeclaredClasses()) {
            int m = inner.getModifiers();
            D.due(inner + " is static and closed", Modifier.isStatic(m) && !Modifier.isPublic(m) && !Modifier.isProtected(m), true);
        }
        D.due("twelve classes at most", c.getDeclaredClasses().length <= 11, true);
    }

    private static void names() {
        D.part("names and fields");
        Set<String> open = new HashSet<>();
        for (Method m : KinMeet.class.getMethods()) {
            if (m.getDeclaringClass() == KinMeet.class) {
                open.add(m.getName());
            }
        }
        List<Class<?>> all = new ArrayList<>(Arrays.asList(KinMeet.class.getDeclaredClasses()));
        all.add(KinMeet.class);
        for (Class<?> c : all) {
            for (Method m : c.getDeclaredMethods()) {
                boolean ofFace = c == KinMeet.class && Modifier.isPublic(m.getModifiers());
                D.due(m + " bears no name of the face", ofFace || !open.contains(m.getName()), true);
                D.due(m + " takes seven at most", m.getParameterCount() <= 7, true);
            }
            int fields = 0;
            for (Field f : c.getDeclaredFields()) {
                boolean isStatic = Modifier.isStatic(f.getModifiers());
                fields += isStatic ? 0 : 1;
                D.due(f + " is final if it is static", !isStatic || Modifier.isFinal(f.getModifiers()), true);
            }
            D.due(c + " has twenty fields at most", fields <= 20, true);
        }
    }

    private static void text() throws IOException {
        D.part("the text");
        List<String> lines = Files.readAllLines(Path.of("src/main/java/KinMeet.java"));
        String[] banned = {"->", "::", "finally", "synchronized", "assert ", "Exact(", "catch", " try {", "hashCode", "toString", "package ",
            "System.out", "System.err", "System.current", "System.nano", "Math.random", "Thread", "double ", "float ", "@", "var ", "extends ", "static {"};
        Set<String> imports = Set.of("import java.util.Arrays;", "import java.util.NoSuchElementException;");
        int begun = -1;
        for (int i = 0; i < lines.size(); i++) {
            String line = lines.get(i);
            for (String b : banned) {
                D.due("line " + (i + 1) + " without " + b, line.contains(b), false);
            }
            D.due("signs of line " + (i + 1), line.chars().allMatch(ch -> ch >= 32 && ch < 127), true);
            D.due("import of line " + (i + 1), !line.startsWith("import") || imports.contains(line), true);
            if (line.matches(" {4}( {4})?[a-zA-Z].*\\) (throws .*)?\\{")) {
                begun = i;
            } else if (begun >= 0 && line.equals(lines.get(begun).replaceAll("[^ ].*", "") + "}")) {
                D.due("sixty lines at most from line " + (begun + 1), i - begun < 60, true);
                begun = -1;
            }
        }
    }
}
