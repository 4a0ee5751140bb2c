import java.io.IOException;
import java.lang.reflect.Method;
import java.lang.reflect.Modifier;
import java.nio.charset.StandardCharsets;
import java.nio.file.Files;
import java.nio.file.Path;
import java.util.ArrayList;
import java.util.Comparator;
import java.util.List;
import java.util.Set;
import java.util.TreeSet;
import java.util.regex.Matcher;
import java.util.regex.Pattern;
import java.util.stream.Stream;

/** README.md, held to its word: its example and its commands are run in a copy of the project, and its lists are whole. */
public final class ChargeDeskReadme {
    private static final Path README = Path.of("README.md");
    private static final Path TESTS = Path.of("src/test/java");
    private static final Path CI = Path.of(".ci/run");

    private static int wrong = 0;

    private static void due(String what, Object got, Object want) {
        if (!got.equals(want)) {
            wrong++;
            System.out.println(what + " is " + got + ", due is " + want);
        }
    }

    private static List<String> blocks(String readme, String language) {
        List<String> found = new ArrayList<>();
        Matcher block = Pattern.compile("^```" + language + "\n(.*?)^```$", Pattern.DOTALL | Pattern.MULTILINE).matcher(readme);
        while (block.find()) {
            found.add(block.group(1));
        }
        return found;
    }

    private static Set<String> firstGroups(String pattern, String text) {
        Set<String> found = new TreeSet<>();
        Matcher matcher = Pattern.compile(pattern, Pattern.MULTILINE).matcher(text);
        while (matcher.find()) {
            found.add(matcher.group(1));
        }
        return found;
    }

    private static void copy(Path from, Path to) throws IOException {
        try (Stream<Path> paths = Files.walk(from)) {
            for (Path path : (Iterable<Path>) paths::iterator) {
                Path copied = to.resolve(from.relativize(path).toString());
                if (Files.isDirectory(path)) {
                    Files.createDirectories(copied);
                } else {
                    Files.copy(path, copied);
                }
            }
        }
    }

    private static void remove(Path tree) throws IOException {
        try (Stream<Path> paths = Files.walk(tree)) {
            for (Path path : (Iterable<Path>) paths.sorted(Comparator.reverseOrder())::iterator) {
                Files.delete(path);
            }
        }
    }

    /** What the commands print; they make their directories in the copy too, so that it can all be removed. */
    private static String printedBy(String commands, Path project) throws IOException, InterruptedException {
        ProcessBuilder shell = new ProcessBuilder("sh", "-e", "-c", commands).directory(project.toFile())
            .redirectError(ProcessBuilder.Redirect.INHERIT);
        shell.environment().put("TMPDIR", project.toString());
        Process process = shell.start();
        String printed = new String(process.getInputStream().readAllBytes(), StandardCharsets.UTF_8);
        due("the exit code of\n" + commands, process.waitFor(), 0);
        return printed;
    }

    private static void runs(String readme, Path project) throws IOException, InterruptedException {
        List<String> programs = blocks(readme, "java");
        List<String> commands = blocks(readme, "sh");
        List<String> outputs = blocks(readme, "text");
        due("how many blocks of java, sh, text", List.of(programs.size(), commands.size(), outputs.size()), List.of(1, 2, 1));
        if (wrong != 0) {
            return;
        }
        copy(Path.of("src"), project.resolve("src"));
        Files.writeString(project.resolve("Toll.java"), programs.get(0));
        due("what the example prints", printedBy(commands.get(0), project), outputs.get(0));
        due("what the one test prints", printedBy(commands.get(1), project), "all answers are as due\n");
    }

    private static Set<String> publicCalls() {
        Set<String> names = new TreeSet<>();
        for (Method method : ChargeDesk.class.getDeclaredMethods()) {
            if (Modifier.isPublic(method.getModifiers())) {
                names.add(method.getName());
            }
        }
        return names;
    }

    private static Set<String> testsOfTheProject() throws IOException {
        Set<String> names = new TreeSet<>();
        try (Stream<Path> paths = Files.list(TESTS)) {
            paths.forEach(path -> names.add(path.getFileName().toString().replace(".java", "")));
        }
        return names;
    }

    private static void listsAreWhole(String readme) throws IOException {
        Set<String> rows = firstGroups("^\\| (`.*?) \\|", readme);
        due("the calls in the table", firstGroups("`(\\w+)\\(", String.join("\n", rows)), publicCalls());
        due("the tests in the list", firstGroups("^- `(\\w+)`:", readme), testsOfTheProject());
        due("whether .ci/run is named, and can be run", readme.contains("\n    .ci/run\n") && Files.isExecutable(CI), true);
    }

    public static void main(String[] args) throws IOException, InterruptedException {
        String readme = Files.readString(README);
        listsAreWhole(readme);
        Path project = Files.createTempDirectory("charge-desk-readme");
        try {
            runs(readme, project);
        } finally {
            remove(project);
        }
        System.out.println(wrong == 0 ? "the page is as due" : wrong + " faults in README.md");
        if (wrong != 0) {
            System.exit(1);
        }
    }
}
