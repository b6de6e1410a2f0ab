import java.io.IOException;
import java.lang.reflect.Method;
import java.lang.reflect.Modifier;
import java.nio.file.Files;
import java.nio.file.Path;
import java.util.ArrayList;
import java.util.Comparator;
import java.util.List;
import java.util.regex.Matcher;
import java.util.regex.Pattern;
import java.util.stream.Stream;

/** What README.md shows of the class's use compiles and answers as it says, its commands run, and it names each test. */
public final class ReadmeTest {
    /** A part of README.md between two fences. */
    private record Block(String kind, List<String> lines, int firstLine) {
        String text() {
            return String.join("\n", lines) + "\n";
        }

        boolean isProgram() {
            return kind.equals("java") && text().startsWith("public final class");
        }

        boolean isCalls() {
            return kind.equals("java") && !isProgram();
        }
    }

    private static final Pattern CALL = Pattern.compile("market\\.(\\w+)\\((.*)\\)");
    private static final Pattern ANSWER = Pattern.compile("(-?\\d+|true|false|nothing|throws (\\w+))(:.*)?");

    private final Checks checks = new Checks();
    private final String readme = read(Path.of("README.md"));
    private final List<Block> blocks = blocksOf(readme);

    public static void main(String[] args) throws Exception {
        ReadmeTest test = new ReadmeTest();
        Path place = Files.createTempDirectory("readme");
        try {
            test.checkCalls(place);
            test.checkCommands(place);
        } finally {
            remove(place);
        }
        test.checkNames();
        test.checks.end();
    }

    private static String read(Path path) {
        try {
            return Files.readString(path);
        } catch (IOException e) {
            throw new java.io.UncheckedIOException(e);
        }
    }

    private static void remove(Path place) throws IOException {
        try (Stream<Path> paths = Files.walk(place)) {
            for (Path path : paths.sorted(Comparator.reverseOrder()).toList()) {
                Files.delete(path);
            }
        }
    }

    private static List<Block> blocksOf(String text) {
        List<Block> found = new ArrayList<>();
        Block block = null;
        int number = 0;
        for (String line : text.split("\n")) {
            number++;
            if (!line.startsWith("```")) {
                if (block != null) {
                    block.lines.add(line);
                }
            } else if (block == null) {
                block = new Block(line.substring(3), new ArrayList<>(), number + 1);
            } else {
                found.add(block);
                block = null;
            }
        }
        return found;
    }

    /** All blocks of calls are one program, as they tell of one object. */
    private void checkCalls(Path place) throws Exception {
        StringBuilder program = new StringBuilder("final class ReadmeCalls {\n"
            + "    public static void main(String[] args) {\n        Checks checks = new Checks();\n");
        List<String> called = new ArrayList<>();
        for (Block block : blocks) {
            for (int n = 0; block.isCalls() && n < block.lines.size(); n++) {
                program.append("        ").append(checkOf(block.lines.get(n), block.firstLine + n, called)).append('\n');
            }
        }
        program.append("        checks.end();\n    }\n}\n");
        for (Method method : GridMarket.class.getDeclaredMethods()) {
            if (Modifier.isPublic(method.getModifiers())) {
                checks.due("README.md shows " + method.getName(), called.contains(method.getName()), true);
            }
        }
        Files.writeString(place.resolve("ReadmeCalls.java"), program.toString());
        Path told = place.resolve("told");
        String parts = Path.of(System.getProperty("java.class.path")).toAbsolutePath() + ":.";
        int code = runIn(place, told, "javac", "-cp", parts, "-d", ".", "ReadmeCalls.java");
        code = code == 0 ? runIn(place, told, "java", "-cp", parts, "ReadmeCalls") : code;
        checks.due("calls of README.md: exit code", code, 0);
        System.out.print("calls of README.md: " + read(told));
    }

    /** The line of the program that asks what a line of README.md tells. */
    private String checkOf(String line, int number, List<String> called) {
        if (line.equals("GridMarket market = new GridMarket();")) {
            return line;
        }
        String[] parts = line.split(";\\s+// ", 2);
        Matcher call = CALL.matcher(parts[0]);
        Matcher answer = ANSWER.matcher(parts.length > 1 ? parts[1] : "");
        boolean isTold = call.matches() && answer.matches();
        checks.due("README.md, line " + number + ", is a call with its answer: " + line, isTold, true);
        if (!isTold) {
            return "";
        }
        called.add(call.group(1));
        String what = "\"README.md, line " + number + ": " + parts[0].replace("\"", "\\\"") + "\"";
        if (answer.group(2) != null) {
            return "checks.dueThrow(" + what + ", " + answer.group(2) + ".class, () -> " + parts[0] + ");";
        }
        boolean isVoid = answer.group(1).equals("nothing");
        return isVoid ? parts[0] + ";" : "checks.due(" + what + ", " + parts[0] + ", " + answer.group(1) + ");";
    }

    /** The commands run as in a checkout that has README.md's program beside the class. */
    private void checkCommands(Path place) throws Exception {
        Path project = Files.createDirectory(place.resolve("project"));
        Files.createSymbolicLink(project.resolve("src"), Path.of("src").toAbsolutePath());
        Files.createSymbolicLink(place.resolve("shared"), Path.of("../shared").toRealPath());
        Path told = place.resolve("told");
        int ran = 0;
        int compared = 0;
        for (Block block : blocks) {
            if (block.isProgram()) {
                Files.writeString(project.resolve("Example.java"), block.text());
            } else if (block.kind.equals("sh") && !block.text().equals(".ci/run\n")) {
                ran++;
                int code = runIn(project, told, "bash", "-e", "-c", block.text());
                checks.due("README.md, line " + block.firstLine + ": exit code of its commands", code, 0);
                System.out.print(code == 0 ? "" : read(told));
            } else if (block.kind.equals("text")) {
                compared++;
                checks.due("README.md, line " + block.firstLine + ": what its program prints, which was\n" + read(told),
                    read(told).equals(block.text()), true);
            }
        }
        checks.due("blocks of commands that ran", ran, 2);
        checks.due("blocks of what a program prints", compared, 1);
        checks.due(".ci/run can be run", Files.isExecutable(Path.of(".ci/run")), true);
    }

    private static int runIn(Path directory, Path told, String... command) throws Exception {
        return new ProcessBuilder(command).directory(directory.toFile()).redirectErrorStream(true)
            .redirectOutput(told.toFile()).start().waitFor();
    }

    private void checkNames() throws IOException {
        try (Stream<Path> files = Files.list(Path.of("src/test/java"))) {
            for (Path file : files.sorted().toList()) {
                String name = file.getFileName().toString().replace(".java", "");
                if (name.endsWith("Test")) {
                    checks.due("README.md names " + name, readme.contains("`" + name + "`"), true);
                }
            }
        }
        Matcher names = Pattern.compile("`(\\w+(Test|Market|Checks))`|`(Edges\\w+)`").matcher(readme);
        while (names.find()) {
            String name = names.group(1) != null ? names.group(1) : names.group(3);
            checks.due("there is " + name, Files.exists(Path.of("src/test/java/" + name + ".java")), true);
        }
    }
}
