import java.io.IOException;
import java.nio.file.Files;
import java.nio.file.Path;
import java.util.ArrayList;
import java.util.List;
import java.util.Set;
import java.util.TreeSet;
import java.util.regex.Matcher;
import java.util.regex.Pattern;
import java.util.stream.Stream;

/** What README.md says is tried: its commands, the answers that its program tells, its names. */
public final class ReadmeTest {
    private static int wrong = 0;

    private static void must(boolean holds, String what) {
        if (!holds) {
            wrong++;
            System.out.println("README.md: " + what);
        }
    }

    public static void main(String[] args) throws IOException, InterruptedException {
        String page = Files.readString(Path.of("README.md"));
        Path root = Files.createTempDirectory("readme");
        try {
            copy(Path.of("src"), root.resolve("src"));
            example(page, root);
            oneTestAlone(page, root);
            names(page);
        } finally {
            remove(root);
        }
        System.out.println(wrong == 0 ? "the page holds" : wrong + " things on the page do not hold");
        if (wrong != 0) {
            System.exit(1);
        }
    }

    private static void copy(Path from, Path to) throws IOException {
        try (Stream<Path> all = Files.walk(from)) {
            for (Path p : (Iterable<Path>) all::iterator) {
                Files.copy(p, to.resolve(from.relativize(p).toString()));
            }
        }
    }

    private static void remove(Path root) throws IOException {
        List<Path> all;
        try (Stream<Path> walk = Files.walk(root)) {
            all = new ArrayList<>(walk.toList());
        }
        for (int i = all.size() - 1; i >= 0; i--) {
            Files.delete(all.get(i));
        }
    }

    /** The commands of a part of the page, of which each is a line of its own, four blanks in. */
    private static List<String> commands(String page, String part) {
        int from = page.indexOf("## " + part);
        int to = page.indexOf("\n## ", from + 1);
        List<String> out = new ArrayList<>();
        Matcher m = Pattern.compile("(?m)^    ((?:javac|java) .*)$").matcher(page.substring(from, to < 0 ? page.length() : to));
        while (m.find()) {
            out.add(m.group(1));
        }
        return out;
    }

    private static List<String> carryOut(String command, Path root) throws IOException, InterruptedException {
        Path said = root.resolve("said");
        Process p = new ProcessBuilder(command.split(" ")).directory(root.toFile()).redirectErrorStream(true).redirectOutput(said.toFile()).start();
        must(p.waitFor() == 0, command + " failed: " + Files.readString(said));
        return Files.readAllLines(said);
    }

    private static void example(String page, Path root) throws IOException, InterruptedException {
        int from = page.indexOf("```java\n") + "```java\n".length();
        String program = page.substring(from, page.indexOf("```", from));
        Files.writeString(root.resolve("Mine.java"), program);
        List<String> due = new ArrayList<>();
        Matcher m = Pattern.compile("println\\((.*)\\); +// (-?\\d+): ").matcher(program);
        while (m.find()) {
            due.add(m.group(1) + " " + m.group(2));
        }
        List<String> said = List.of();
        for (String command : commands(page, "Compile and use")) {
            said = carryOut(command, root);
        }
        must(!due.isEmpty() && said.size() == due.size(), "the program prints " + said.size() + " lines, the page tells " + due.size());
        for (int i = 0; i < Math.min(due.size(), said.size()); i++) {
            must(due.get(i).endsWith(" " + said.get(i)), due.get(i) + " is told, " + said.get(i) + " is printed");
        }
    }

    private static void oneTestAlone(String page, Path root) throws IOException, InterruptedException {
        List<String> commands = commands(page, "Tests");
        must(commands.size() == 2, "how one test alone is run");
        for (String command : commands) {
            carryOut(command, root);
        }
        must(Files.isExecutable(Path.of(".ci/run")) && page.contains("\n    .ci/run\n"), ".ci/run is told, and can be run");
    }

    /** All tests are told, and no others; all calls of the class are, too. */
    private static void names(String page) throws IOException {
        Set<String> tests = new TreeSet<>();
        try (Stream<Path> all = Files.list(Path.of("src/test/java"))) {
            all.forEach(p -> tests.add(p.getFileName().toString().replace(".java", "")));
        }
        Set<String> told = new TreeSet<>();
        Matcher m = Pattern.compile("(?m)^- `(\\w+)`: ").matcher(page);
        while (m.find()) {
            told.add(m.group(1));
        }
        must(told.equals(tests), "told are " + told + ", there are " + tests);
        for (java.lang.reflect.Method call : HeaviestLightest.class.getDeclaredMethods()) {
            boolean open = java.lang.reflect.Modifier.isPublic(call.getModifiers());
            must(!open || page.contains("`" + call.getName() + "`"), call.getName() + " is not told");
        }
    }
}
