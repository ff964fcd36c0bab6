import java.io.IOException;
import java.nio.file.Files;
import java.nio.file.Path;
import java.util.ArrayList;
import java.util.Comparator;
import java.util.List;
import java.util.Set;
import java.util.TreeSet;
import java.util.regex.Matcher;
import java.util.regex.Pattern;
import java.util.stream.Stream;

/** README.md: each answer that it shows, each command, and the names of the tests. */
public final class ReadmeTest {
    private static final String CI = ".ci/run";
    private static final Pattern ANSWER = Pattern.compile("\\s*(\\w+\\.\\w+\\(.*\\));\\s+// (-?[0-9]+)(?::.*)?");

    private ReadmeTest() {
    }

    public static void main(String[] args) throws Exception {
        String readme = Files.readString(Path.of("README.md"));
        example(blocks(readme, "java"));
        commands(blocks(readme, "sh"));
        tests(readme);
        Due.end("ReadmeTest");
    }

    private static List<String> blocks(String readme, String sort) {
        List<String> all = new ArrayList<>();
        Matcher m = Pattern.compile("(?m)^```" + sort + "\n((?s:.*?))^```$").matcher(readme);
        while (m.find()) {
            all.add(m.group(1));
        }
        Due.is("blocks of " + sort, all.isEmpty() ? 0 : 1, 1);
        return all;
    }

    /** All blocks are one program: one goes on where that before it ended. */
    private static void example(List<String> blocks) throws Exception {
        List<String> program = new ArrayList<>(List.of(
                "public final class Example {",
                "static int wrong = 0;",
                "static void due(String call, long got, long want) {",
                "if (got != want) { wrong++; System.out.println(call + \" answered \" + got + \", README.md: \" + want); } }",
                "public static void main(String[] args) {"));
        for (String block : blocks) {
            for (String line : block.split("\n")) {
                program.add(isToldAnAnswer(line) ? held(line) : line);
            }
        }
        program.addAll(List.of("System.exit(wrong == 0 ? 0 : 1);", "}", "}"));
        Path own = Files.createTempDirectory("readme");
        try {
            Files.write(own.resolve("Example.java"), program);
            String classes = Path.of(System.getProperty("java.class.path")).toAbsolutePath().toString();
            Due.is("the example", exitCode(own, "java", "-cp", classes, "Example.java"), 0);
        } finally {
            remove(own);
        }
    }

    /** A line with a comment that is not of the form would be held by nothing, so it may not be. */
    private static boolean isToldAnAnswer(String line) {
        boolean isTold = ANSWER.matcher(line).matches();
        Due.is("an answer is told by: " + line, line.contains("//") ? 1 : 0, isTold ? 1 : 0);
        return isTold;
    }

    private static String held(String line) {
        Matcher m = ANSWER.matcher(line);
        m.matches();
        return "due(\"" + m.group(1) + "\", " + m.group(1) + ", " + m.group(2) + ");";
    }

    /** Each by itself, on a copy without anything that another one made. */
    private static void commands(List<String> blocks) throws Exception {
        int many = 0;
        for (String block : blocks) {
            for (String command : block.split("\n")) {
                many++;
                if (command.equals(CI)) {
                    // this test is run by it, so it cannot be run from here
                    Due.is(CI + " can be run", Files.isExecutable(Path.of(CI)) ? 1 : 0, 1);
                } else {
                    runOnACopy(command);
                }
            }
        }
        Due.is("README.md has some commands", many > 1 ? 1 : 0, 1);
    }

    private static void runOnACopy(String command) throws Exception {
        Path copy = Files.createTempDirectory("readme");
        try {
            List<Path> sources;
            try (Stream<Path> walk = Files.walk(Path.of("src"))) {
                sources = walk.toList();
            }
            for (Path source : sources) {
                Files.copy(source, copy.resolve(source));
            }
            Due.is(command, exitCode(copy, "sh", "-c", command), 0);
        } finally {
            remove(copy);
        }
    }

    private static int exitCode(Path directory, String... command) throws Exception {
        Process process = new ProcessBuilder(command).directory(directory.toFile())
                .redirectErrorStream(true).start();
        process.getOutputStream().close();
        String told = new String(process.getInputStream().readAllBytes());
        int code = process.waitFor();
        if (code != 0) {
            System.out.println(told);
        }
        return code;
    }

    private static void remove(Path directory) throws IOException {
        List<Path> all;
        try (Stream<Path> walk = Files.walk(directory)) {
            all = walk.sorted(Comparator.reverseOrder()).toList();
        }
        for (Path path : all) {
            Files.delete(path);
        }
    }

    private static void tests(String readme) throws IOException {
        Set<String> named = new TreeSet<>();
        Matcher m = Pattern.compile("`(\\w+Test)`").matcher(readme);
        while (m.find()) {
            named.add(m.group(1));
        }
        Set<String> there = new TreeSet<>();
        try (Stream<Path> files = Files.list(Path.of("src/test/java"))) {
            files.map(file -> file.getFileName().toString()).filter(name -> name.endsWith("Test.java"))
                    .forEach(name -> there.add(name.replace(".java", "")));
        }
        Due.is("tests named are " + named + ", there are " + there, named.equals(there) ? 1 : 0, 1);
    }
}
