import java.io.IOException;
import java.lang.reflect.Method;
import java.lang.reflect.Modifier;
import java.nio.file.Files;
import java.nio.file.Path;
import java.util.ArrayList;
import java.util.Iterator;
import java.util.List;
import java.util.TreeSet;
import java.util.regex.Matcher;
import java.util.regex.Pattern;
import java.util.stream.Stream;

/** README.md says what is so: its example, the calls of the face, the commands for the tests and their names. */
final class ReadmeTest {
    private final Checks checks = new Checks("ReadmeTest");
    private final String readme;
    private Iterator<String> exampleLines;

    private ReadmeTest() throws IOException {
        readme = Files.readString(Path.of("README.md"));
    }

    public static void main(String[] args) throws IOException {
        ReadmeTest test = new ReadmeTest();
        test.example();
        test.calls();
        test.commands();
        test.tests();
        test.checks.finish();
    }

    private void example() {
        checks.part("the example");
        Matcher block = Pattern.compile("(?s)```java\n(.*?)```").matcher(readme);
        checks.is("there is one", block.find(), true);
        exampleLines = List.of(block.group(1).split("\n")).iterator();
        SlotFile file = new SlotFile();
        checks.same("its first line", exampleLines.next(), "SlotFile file = new SlotFile();");
        int record = file.insert(40, 7);
        shown("int record = file.insert(40, 7);", record);
        shown("file.update(record, 300, 8);", file.update(record, 300, 8));
        shown("file.length(record);", file.length(record));
        shown("file.byteAt(record, 299);", file.byteAt(record, 299));
        shown("file.where(record, 3);", file.where(record, 3));
        shown("file.sync();", file.sync());
        shown("file.delete(record);", file.delete(record));
        shown("file.next(SlotFile.NONE);", file.next(SlotFile.NONE));
        shown("file.crash(0);", file.crash(0));
        shown("file.length(record);", file.length(record));
        checks.is("it has more lines", exampleLines.hasNext(), false);
    }

    /** The next line of the example is this call, with this answer at the beginning of its comment. */
    private void shown(String call, Object answer) {
        String line = exampleLines.hasNext() ? exampleLines.next() : "";
        String[] parts = line.split(" *// ", 2);
        checks.same("call", parts[0], call);
        checks.same("answer of " + call, parts.length < 2 ? "" : parts[1].split(":")[0], String.valueOf(answer));
    }

    private void calls() {
        checks.part("the calls");
        for (Method method : SlotFile.class.getDeclaredMethods()) {
            if (Modifier.isPublic(method.getModifiers())) {
                checks.is(method.getName() + " is told", readme.contains("\n| `" + method.getName() + "("), true);
            }
        }
    }

    private void commands() throws IOException {
        checks.part("the commands");
        List<String> run = new ArrayList<>();
        for (String line : Files.readString(Path.of(".ci/run")).split("\n")) {
            run.add(line.trim().replace(" || return 1", ""));
        }
        TreeSet<String> named = new TreeSet<>();
        for (String line : readme.split("\n")) {
            if (line.startsWith("    ") && !line.equals("    .ci/run")) {
                named.add(line.trim());
                checks.is("'" + line.trim() + "' stands in .ci/run", run.contains(line.trim()), true);
            }
        }
        for (String line : run) {
            if (line.startsWith("javac ") || line.startsWith("java ")) {
                checks.is("'" + line + "' stands in README.md", named.contains(line), true);
            }
        }
        checks.is("how many", named.size(), 4);
        checks.is(".ci/run can be executed", Files.isExecutable(Path.of(".ci/run")), true);
    }

    private void tests() throws IOException {
        checks.part("the tests");
        TreeSet<String> named = new TreeSet<>();
        Matcher row = Pattern.compile("\n\\| `(\\w+Test)` \\|").matcher(readme);
        while (row.find()) {
            named.add(row.group(1) + ".java");
        }
        TreeSet<String> there = new TreeSet<>();
        try (Stream<Path> files = Files.list(Path.of("src/test/java"))) {
            files.map(file -> file.getFileName().toString())
                .filter(name -> name.endsWith("Test.java"))
                .forEach(there::add);
        }
        checks.same("names", String.join("\n", named), String.join("\n", there));
    }
}
