import java.io.File;
import java.io.IOException;
import java.nio.file.Files;
import java.nio.file.Path;
import java.util.ArrayList;
import java.util.List;
import java.util.Set;
import java.util.TreeSet;
import java.util.regex.Matcher;
import java.util.regex.Pattern;
import java.util.stream.Stream;

/** What README.md says is so: its example compiles and answers as it says, its tables and its tests are those there are. */
public final class ReadmeTest extends Dues {
    static final Path README = Path.of("README.md");
    static final Path MAIN = Path.of("src/main/java/SiteObjects.java");

    static List<String> found(String pattern, String text) {
        List<String> all = new ArrayList<>();
        Matcher m = Pattern.compile(pattern).matcher(text);
        while (m.find()) {
            all.add(m.group(1));
        }
        return all;
    }

    /** What javac or java prints, and its exit code in the last line; both are found where .ci/run finds them. */
    static List<String> printed(Path in, String tool, String... args) throws Exception {
        List<String> command = new ArrayList<>();
        command.add(tool);
        command.addAll(List.of(args));
        File out = in.resolve(tool + ".txt").toFile();
        Process done = new ProcessBuilder(command).redirectError(ProcessBuilder.Redirect.INHERIT).redirectOutput(out).start();
        int code = done.waitFor();
        List<String> lines = new ArrayList<>(Files.readAllLines(out.toPath()));
        lines.add("exit " + code);
        return lines;
    }

    static void clear(Path dir) throws IOException {
        try (Stream<Path> all = Files.walk(dir)) {
            all.sorted((p, q) -> q.compareTo(p)).forEach(p -> p.toFile().delete());
        }
    }

    static void theExampleAnswersAsItSays() throws Exception {
        about("its example compiles and answers as it says");
        List<String> examples = found("(?s)```java\n(.*?)```", Files.readString(README));
        due("how many examples", examples.size(), 1);
        String example = examples.get(0);
        List<String> want = found("System\\.out\\.println\\(.*\\);\\s+// (-?[0-9]+):", example);
        due("how many lines print", example.split("println", -1).length - 1, want.size());
        want.add("exit 0");
        Path dir = Files.createTempDirectory("readme");
        Path file = Files.writeString(dir.resolve("Example.java"), example);
        String out = dir.resolve("out").toString();
        due("javac", printed(dir, "javac", "-d", out, MAIN.toString(), file.toString()).toString(), "[exit 0]");
        due("java", printed(dir, "java", "-cp", out, "Example").toString(), want.toString());
        clear(dir);
    }

    static void theExampleHasEachCall() throws Exception {
        about("README.md says how to use the class");
        String example = found("(?s)```java\n(.*?)```", Files.readString(README)).get(0);
        due("the calls of the example", new TreeSet<>(found("\\bx\\.(\\w+)\\(", example)).toString(), calls().toString());
    }

    static Set<String> calls() {
        Set<String> all = new TreeSet<>();
        for (var m : SiteObjects.class.getMethods()) {
            if (m.getDeclaringClass() == SiteObjects.class) {
                all.add(m.getName());
            }
        }
        return all;
    }

    static void theTableHasEachCall() throws Exception {
        about("the calls");
        List<String> told = found("(?m)^\\| `(\\w+)\\(", Files.readString(README));
        due("the calls of the table", new TreeSet<>(told).toString(), calls().toString());
        due("how many", told.size(), calls().size());
    }

    static void theTableHasTheNumbersOfEachKind() throws Exception {
        about("the numbers of a STEP: what stands empty is not looked at");
        List<String> rows = found("(?m)^\\| ([0-9]+ \\|.*)\\|$", Files.readString(README));
        due("how many KINDS", rows.size(), 17);
        for (int kind = 0; kind < rows.size(); kind++) {
            String[] cells = rows.get(kind).split("\\|", -1);
            due("the KIND", cells[0].trim(), String.valueOf(kind));
            for (int number = 0; number < 4; number++) {
                boolean isEmpty = cells[2 + number].isBlank();
                numberIsAsTold(kind, number, isEmpty);
            }
        }
    }

    static void numberIsAsTold(int kind, int number, boolean isEmpty) {
        SiteObjects x = new SiteObjects();
        x.method(-1, 0);
        int[] n = {0, kind == 12 || kind == 16 ? 1 : 0, 0, 0};
        n[number] = OTHER;
        due("KIND " + kind + ", number " + "abcd".charAt(number) + " = " + OTHER,
            x.step(0, kind, n[0], n[1], n[2], n[3]), isEmpty ? 0 : BAD);
    }

    static void theTestsAreTold() throws Exception {
        about("README.md says how to run its tests");
        String text = Files.readString(README);
        due(".ci/run can be run", Files.isExecutable(Path.of(".ci/run")) ? 1 : 0, 1);
        Set<String> there = new TreeSet<>();
        try (Stream<Path> all = Files.list(Path.of("src/test/java"))) {
            all.forEach(p -> there.add(p.getFileName().toString().replace(".java", "")));
        }
        Set<String> told = new TreeSet<>(found("`(\\w+Test|Dues|Kept)`", text));
        due("the tests", told.toString(), there.toString());
    }

    static void theClassesAreTold() throws Exception {
        about("how it is built");
        String part = found("(?s)## How it is built(.*?)\n## ", Files.readString(README)).get(0);
        Set<String> there = new TreeSet<>();
        for (Class<?> c : SiteObjects.class.getDeclaredClasses()) {
            there.add(c.getSimpleName());
        }
        due("the classes inside", new TreeSet<>(found("`([A-Z]\\w+)`", part)).toString(), there.toString());
    }

    public static void main(String[] args) throws Exception {
        runAll(ReadmeTest.class);
    }
}
