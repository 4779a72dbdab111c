import java.lang.reflect.Constructor;
import java.lang.reflect.Executable;
import java.lang.reflect.Field;
import java.lang.reflect.Method;
import java.lang.reflect.Modifier;
import java.nio.file.Files;
import java.nio.file.Path;
import java.util.ArrayList;
import java.util.Arrays;
import java.util.Collections;
import java.util.List;

/** The face is the document's and no more, and the source has none of the plainest faults of LANGUAGE.md. */
final class FaceTest {
    private static final String[] FACE = {
        "SlotFile()",
        "int byteAt(int, int) NoSuchElementException",
        "int crash(int) IllegalArgumentException",
        "int delete(int) NoSuchElementException",
        "int insert(int, int) IllegalArgumentException",
        "int length(int)",
        "int next(int)",
        "int page(int, int) IllegalArgumentException",
        "int slot(int, int) IllegalArgumentException",
        "int sync()",
        "int total(int) IllegalArgumentException",
        "int where(int, int) NoSuchElementException IllegalArgumentException",
        "boolean update(int, int, int) NoSuchElementException IllegalArgumentException",
        "static final int NONE",
    };
    private static final String[] NOT_ALLOWED = {
        "->", "::", "synchronized", "finally", "assert ", "protected", "package ", "getMessage", "hashCode",
        "toString", "Exact(", "Random", "System.currentTimeMillis", "System.nanoTime", "System.out", "Thread",
        "var ", "static {", "try ",
    };

    private final Checks checks = new Checks("FaceTest");

    public static void main(String[] args) throws Exception {
        FaceTest test = new FaceTest();
        test.face();
        test.outerClass();
        test.nestedClasses();
        test.source();
        test.checks.finish();
    }

    private void face() {
        checks.part("face");
        List<String> found = new ArrayList<>();
        for (Constructor<?> c : SlotFile.class.getDeclaredConstructors()) {
            addIfSeen(found, c, "SlotFile");
        }
        for (Method m : SlotFile.class.getDeclaredMethods()) {
            addIfSeen(found, m, m.getReturnType() + " " + m.getName());
        }
        for (Field f : SlotFile.class.getDeclaredFields()) {
            if (!Modifier.isPrivate(f.getModifiers())) {
                found.add("static final " + f.getType() + " " + f.getName());
            }
            checks.is(f.getName() + " is private or NONE",
                Modifier.isPrivate(f.getModifiers()) || f.getName().equals("NONE"), true);
        }
        List<String> due = new ArrayList<>(Arrays.asList(FACE));
        Collections.sort(found);
        Collections.sort(due);
        checks.same("members", String.join("\n", found), String.join("\n", due));
        checks.is("NONE", SlotFile.NONE, -1);
        int modifiers = SlotFile.class.getModifiers();
        checks.is("public and final", Modifier.isPublic(modifiers) && Modifier.isFinal(modifiers), true);
    }

    private static void addIfSeen(List<String> found, Executable member, String name) {
        if (Modifier.isPrivate(member.getModifiers())) {
            return;
        }
        List<String> parameters = new ArrayList<>();
        for (Class<?> type : member.getParameterTypes()) {
            parameters.add(type.getSimpleName());
        }
        StringBuilder text = new StringBuilder(name + "(" + String.join(", ", parameters) + ")");
        for (Class<?> type : member.getExceptionTypes()) {
            text.append(' ').append(type.getSimpleName());
        }
        found.add(text.toString());
    }

    private void outerClass() {
        checks.part("the class itself");
        checks.is("at most twelve classes", SlotFile.class.getDeclaredClasses().length < 12, true);
        int fields = 0;
        for (Field f : SlotFile.class.getDeclaredFields()) {
            int modifiers = f.getModifiers();
            fields += Modifier.isStatic(modifiers) ? 0 : 1;
            checks.is(f + " is no static state", !Modifier.isStatic(modifiers) || Modifier.isFinal(modifiers), true);
        }
        checks.is("few fields", fields <= 20, true);
        for (Method m : SlotFile.class.getDeclaredMethods()) {
            boolean seen = Modifier.isPublic(m.getModifiers());
            checks.is(m.getName() + " bears a public name", isOfTheFace(m.getName()), seen);
            checks.is(m.getName() + " takes at most seven", m.getParameterCount() <= 7, true);
        }
    }

    private void nestedClasses() {
        checks.part("classes inside");
        for (Class<?> inside : SlotFile.class.getDeclaredClasses()) {
            int modifiers = inside.getModifiers();
            checks.is(inside.getName() + " is static", Modifier.isStatic(modifiers), true);
            checks.is(inside.getName() + " is not public", Modifier.isPublic(modifiers), false);
            checks.is(inside.getName() + " has few fields", inside.getDeclaredFields().length <= 20, true);
            for (Method m : inside.getDeclaredMethods()) {
                checks.is(m.getName() + " bears no public name", isOfTheFace(m.getName()), false);
                checks.is(m.getName() + " takes at most seven", m.getParameterCount() <= 7, true);
            }
            for (Field f : inside.getDeclaredFields()) {
                int m = f.getModifiers();
                checks.is(f + " is no static state", !Modifier.isStatic(m) || Modifier.isFinal(m), true);
            }
        }
    }

    private static boolean isOfTheFace(String name) {
        for (String member : FACE) {
            if (member.contains(" " + name + "(")) {
                return true;
            }
        }
        return false;
    }

    private void source() throws Exception {
        checks.part("source");
        String text = Files.readString(Path.of("src/main/java/SlotFile.java"));
        String code = text.replaceAll("(?s)/\\*.*?\\*/", "")
            .replaceAll("//[^\n]*", "")
            .replaceAll("\"[^\"\n]*\"", "\"\"");
        for (String word : NOT_ALLOWED) {
            checks.is("'" + word + "' stands in the source", code.contains(word), false);
        }
        for (String line : code.split("\n")) {
            if (line.startsWith("import ")) {
                checks.same("import", line.trim(), "import java.util.NoSuchElementException;");
            }
        }
        checks.is("only ASCII", text.chars().allMatch(c -> c < 128), true);
        methodsAreShort(text.split("\n"));
    }

    /** A method begins with a line that ends in a brace behind its parameters, and ends with one as far to the left. */
    private void methodsAreShort(String[] lines) {
        int methods = 0;
        for (int i = 0; i < lines.length; i++) {
            if (!lines[i].matches("( {4}| {8})[A-Za-z].*\\).* \\{") || lines[i].matches(" *(if|for|while|switch) .*")) {
                continue;
            }
            methods++;
            String last = lines[i].replaceAll("\\S.*", "") + "}";
            int end = i;
            while (end < lines.length && !lines[end].equals(last)) {
                end++;
            }
            checks.is("lines of '" + lines[i].trim() + "' are sixty at most", end - i < 60, true);
        }
        checks.is("methods were found", methods > 50, true);
    }
}
