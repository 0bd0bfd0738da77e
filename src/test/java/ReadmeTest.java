import java.io.IOException;
import java.lang.reflect.Method;
import java.lang.reflect.Modifier;
import java.nio.file.Files;
import java.nio.file.Path;
import java.util.ArrayList;
import java.util.Comparator;
import java.util.List;
import java.util.Set;
import java.util.TreeSet;
import java.util.regex.Matcher;
import java.util.regex.Pattern;
import java.util.stream.Stream;

/**
 * README.md: its example and its commands are tried as they stand there, in a folder of their own. The command
 * that runs the tests is tried on small projects, because on this one it would run this test again.
 */
public final class ReadmeTest {
    private static final Path README = Path.of("README.md");
    private static final Path SOURCE = Path.of("src/main/java/ThunderPost.java");
    private static final Path TESTS = Path.of("src/test/java");
    private static final Path RUN = Path.of(".ci/run");
    private static final Check CHECK = new Check("ReadmeTest");

    private final Path room;
    private final String page;

    private ReadmeTest(Path room) throws IOException {
        this.room = room;
        page = Files.readString(README);
    }

    public static void main(String[] args) throws IOException, InterruptedException {
        Path room = Files.createTempDirectory("readme");
        try {
            ReadmeTest test = new ReadmeTest(room);
            test.example();
            test.lists();
            test.runningTheTests();
        } finally {
            clear(room);
        }
        CHECK.end();
    }

    private static void clear(Path room) throws IOException {
        try (Stream<Path> all = Files.walk(room)) {
            for (Path path : all.sorted(Comparator.reverseOrder()).toList()) {
                Files.delete(path);
            }
        }
    }

    private static void yes(String what, boolean holds) {
        CHECK.due(what, holds ? 1 : 0, 1);
    }

    /** The blocks of a kind, in their order. */
    private List<String> blocks(String kind) {
        List<String> blocks = new ArrayList<>();
        Matcher block = Pattern.compile("(?ms)^```" + kind + "\n(.*?)^```$").matcher(page);
        while (block.find()) {
            blocks.add(block.group(1));
        }
        return blocks;
    }

    private String block(String kind, int k) {
        List<String> blocks = blocks(kind);
        yes("the page has block " + k + " of " + kind, k < blocks.size());
        return k < blocks.size() ? blocks.get(k) : "";
    }

    private static void write(Path file, String text) throws IOException {
        Files.createDirectories(file.getParent());
        Files.writeString(file, text);
    }

    // ---- the example

    private void example() throws IOException, InterruptedException {
        Path folder = room.resolve("example");
        write(folder.resolve(SOURCE), Files.readString(SOURCE));
        write(folder.resolve("Example.java"), block("java", 0));
        Path printed = room.resolve("printed");
        CHECK.due("the example's commands end", tryOut(block("sh", 0), folder, printed), 0);
        String got = Files.readString(printed);
        yes("the example prints what the page tells, not\n" + got, got.equals(block("text", 0)));
    }

    private static int tryOut(String commands, Path folder, Path printed) throws IOException, InterruptedException {
        ProcessBuilder shell = new ProcessBuilder("sh", "-e", "-c", commands);
        shell.directory(folder.toFile());
        shell.redirectErrorStream(true);
        shell.redirectOutput(printed.toFile());
        return shell.start().waitFor();
    }

    // ---- the lists

    private void lists() throws IOException {
        Set<String> files = new TreeSet<>();
        try (Stream<Path> all = Files.list(TESTS)) {
            all.map(path -> path.getFileName().toString()).filter(name -> name.endsWith("Test.java"))
                .forEach(name -> files.add(name.replace(".java", "")));
        }
        Set<String> told = namesBelow("| test |");
        yes("the page lists the tests that there are: " + files + told, files.equals(told));
        Set<String> calls = new TreeSet<>();
        for (Method method : ThunderPost.class.getDeclaredMethods()) {
            if (Modifier.isPublic(method.getModifiers())) {
                calls.add(method.getName());
            }
        }
        told = namesBelow("| calls |");
        yes("the page lists the calls that there are: " + calls + told, calls.equals(told));
    }

    /** What stands in the first column of the table that begins so. */
    private Set<String> namesBelow(String head) {
        Set<String> names = new TreeSet<>();
        int from = page.indexOf(head);
        String table = from < 0 ? "" : page.substring(from).split("\n\n", 2)[0];
        for (String line : table.split("\n")) {
            Matcher name = Pattern.compile("`(\\w+)`").matcher(line.replaceFirst("^(\\|[^|]*\\|).*", "$1"));
            while (name.find()) {
                names.add(name.group(1));
            }
        }
        return names;
    }

    // ---- the tests

    private void runningTheTests() throws IOException, InterruptedException {
        String good = "0";
        String bad = "new ThunderPost().many(-1) == -2 ? 1 : 0";
        String broken = "no code";
        runs("all good", good, good, good, 0, "3 passed, 0 failed");
        runs("a test of the project fails", good, bad, good, 1, "2 passed, 1 failed");
        runs("a shared test fails", good, good, bad, 1, "2 passed, 1 failed");
        runs("both fail", bad, good, bad, 1, "1 passed, 2 failed");
        runs("a shared test does not compile", good, good, broken, 1, "2 passed, 1 failed");
        runs("a test of the project does not compile", broken, good, good, 1, "1 passed, 1 failed");
        runs("no shared test", good, good, null, 1, "2 passed, 1 failed");
        runs("no test of the project", null, null, good, 1, "1 passed, 1 failed");
    }

    /** A project of two tests and a shared one, each told by its exit code; null: there is no such test. */
    private void runs(String name, String first, String second, String shared, int want, String last)
            throws IOException, InterruptedException {
        Path place = room.resolve(name.replace(' ', '_'));
        Path project = place.resolve("main");
        write(project.resolve(SOURCE), Files.readString(SOURCE));
        write(project.resolve(RUN), Files.readString(RUN));
        yes(".ci/run is executable", Files.isExecutable(RUN) && project.resolve(RUN).toFile().setExecutable(true));
        writeTest(project.resolve(TESTS), "FirstTest", first);
        writeTest(project.resolve(TESTS), "SecondTest", second);
        writeTest(place.resolve("shared/tests"), "Runs", shared);
        Path printed = room.resolve("printed");
        CHECK.due(name + ": exit code", tryOut(block("sh", 1), project, printed), want);
        String[] lines = Files.readString(printed).split("\n");
        yes(name + ": the last line is " + lines[lines.length - 1], lines[lines.length - 1].equals(last));
    }

    private static void writeTest(Path folder, String name, String exitCode) throws IOException {
        if (exitCode != null) {
            write(folder.resolve(name + ".java"), "public final class " + name
                + " { public static void main(String[] args) { System.exit(" + exitCode + "); } }\n");
        }
    }
}
