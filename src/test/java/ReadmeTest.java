import java.io.IOException;
import java.lang.reflect.Method;
import java.lang.reflect.Modifier;
import java.nio.file.Files;
import java.nio.file.Path;
import java.util.ArrayList;
import java.util.List;
import java.util.TreeSet;
import java.util.regex.Matcher;
import java.util.regex.Pattern;
import java.util.stream.Stream;

/** What README.md says of the class's use and of running the tests is so as it is written. */
public final class ReadmeTest {
    private static final Checks CHECKS = new Checks();
    private static final Path TESTS = Path.of("src/test/java");
    private static final Path SHARED = Path.of("../shared");

    public static void main(String[] args) throws IOException, InterruptedException {
        String readme = Files.readString(Path.of("README.md"));
        callsAreTold(readme);
        classesInsideAreTold(readme);
        testsAreTold(readme);
        Path room = Files.createTempDirectory("readme");
        try {
            Path project = copyOfProject(room);
            exampleRuns(readme, project);
            commandsRun(readme, project);
        } finally {
            remove(room);
        }
        CHECKS.finish();
    }

    private static void callsAreTold(String readme) {
        CHECKS.sentence("README.md: The calls");
        TreeSet<String> told = new TreeSet<>();
        for (String call : found(readme, "(?m)^\\| `(\\w+\\([^)]*\\))` \\|.*\\|.*\\|.*\\|$")) {
            told.add(call.replaceAll("\\w+(?=[,)])", "int"));
        }
        TreeSet<String> there = new TreeSet<>();
        for (Method method : RuledBoard.class.getDeclaredMethods()) {
            if (Modifier.isPublic(method.getModifiers())) {
                String numbers = ", int".repeat(method.getParameterCount());
                there.add(method.getName() + "(" + numbers.replaceFirst(", ", "") + ")");
            }
        }
        CHECKS.dueText("the calls", told.toString(), there.toString());
        throwsAreTold(readme);
    }

    /** The two last columns are empty just where the face has no such throws. */
    private static void throwsAreTold(String readme) {
        for (Method method : RuledBoard.class.getDeclaredMethods()) {
            if (Modifier.isPublic(method.getModifiers())) {
                String row = "(?m)^\\| `" + method.getName() + "\\([^)]*\\)` \\|[^|]*\\|([^|]*)\\|([^|]*)\\|$";
                Matcher cells = Pattern.compile(row).matcher(readme);
                boolean there = cells.find();
                List<Class<?>> thrown = List.of(method.getExceptionTypes());
                CHECKS.due(method.getName() + " has a row that tells IllegalState when it is thrown",
                        there && !cells.group(1).isBlank(), thrown.contains(IllegalStateException.class));
                CHECKS.due(method.getName() + " has a row that tells IllegalArgument when it is thrown",
                        there && !cells.group(2).isBlank(), thrown.contains(IllegalArgumentException.class));
            }
        }
    }

    private static void classesInsideAreTold(String readme) {
        CHECKS.sentence("README.md: How it is built");
        TreeSet<String> there = new TreeSet<>();
        for (Class<?> inside : RuledBoard.class.getDeclaredClasses()) {
            there.add(inside.getSimpleName());
        }
        CHECKS.dueText("the classes inside", new TreeSet<>(found(readme, "(?m)^- `(\\w+)`: ")).toString(),
                there.toString());
    }

    /** Each file of the tests stands once in the tables, and nothing else does. */
    private static void testsAreTold(String readme) throws IOException {
        CHECKS.sentence("README.md: Tests");
        List<String> told = found(readme, "(?m)^\\| `(\\w+)` \\|[^|]*\\|$");
        told.sort(null);
        List<String> there = new ArrayList<>();
        try (Stream<Path> files = Files.list(TESTS)) {
            files.forEach(file -> there.add(file.getFileName().toString().replace(".java", "")));
        }
        there.sort(null);
        CHECKS.dueText("the tests and helpers", told.toString(), there.toString());
        CHECKS.due(".ci/run can be executed", Files.isExecutable(Path.of(".ci/run")), true);
    }

    private static void exampleRuns(String readme, Path project) throws IOException, InterruptedException {
        CHECKS.sentence("README.md: Use");
        Files.writeString(project.resolve("Example.java"), block(readme, "java", 0));
        CHECKS.dueText("the example prints", run(block(readme, "sh", 0), project), block(readme, "text", 0));
    }

    /** The first command of Tests is .ci/run, which runs this very test and so is not run from here. */
    private static void commandsRun(String readme, Path project) throws IOException, InterruptedException {
        CHECKS.sentence("README.md: Tests");
        CHECKS.dueText("the command for all tests", block(readme, "sh", 1), ".ci/run\n");
        CHECKS.due("one test alone passes",
                run(block(readme, "sh", 2), project).endsWith("answers looked at, 0 not as due\n"), true);
        CHECKS.due("one of the shared tests alone passes",
                run(block(readme, "sh", 3), project).contains("exit code"), false);
    }

    /** What a shell prints for these lines, and behind it the exit code if that is not 0. */
    private static String run(String lines, Path where) throws IOException, InterruptedException {
        Process shell = new ProcessBuilder("sh", "-e", "-c", lines).directory(where.toFile())
                .redirectErrorStream(true).start();
        String printed = new String(shell.getInputStream().readAllBytes());
        int code = shell.waitFor();
        return code == 0 ? printed : printed + "exit code " + code;
    }

    private static List<String> found(String text, String pattern) {
        List<String> all = new ArrayList<>();
        Matcher matcher = Pattern.compile(pattern).matcher(text);
        while (matcher.find()) {
            all.add(matcher.group(1));
        }
        return all;
    }

    private static String block(String readme, String language, int which) {
        List<String> all = found(readme, "(?ms)^```" + language + "\\n(.*?)^```$");
        return which < all.size() ? all.get(which) : "no such block";
    }

    /** The commands write into the directory out, so they are run in a copy. */
    private static Path copyOfProject(Path room) throws IOException {
        copy(Path.of("src"), room.resolve("main/src"));
        copy(SHARED.resolve("tests"), room.resolve("shared/tests"));
        return room.resolve("main");
    }

    private static void copy(Path from, Path to) throws IOException {
        try (Stream<Path> all = Files.walk(from)) {
            for (Path path : all.toList()) {
                Path target = to.resolve(from.relativize(path));
                if (Files.isDirectory(path)) {
                    Files.createDirectories(target);
                } else {
                    Files.write(target, Files.readAllBytes(path));
                }
            }
        }
    }

    private static void remove(Path room) throws IOException {
        try (Stream<Path> all = Files.walk(room)) {
            for (Path path : all.sorted((a, b) -> b.compareTo(a)).toList()) {
                Files.delete(path);
            }
        }
    }
}
