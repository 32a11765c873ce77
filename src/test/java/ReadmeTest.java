import java.io.IOException;
import java.nio.charset.StandardCharsets;
import java.nio.file.Files;
import java.nio.file.Path;
import java.util.ArrayList;
import java.util.List;
import java.util.regex.Matcher;
import java.util.regex.Pattern;
import java.util.stream.Collectors;
import java.util.stream.Stream;

/** README.md: its commands run as they are written, its example answers as it says, and it names each call. */
public final class ReadmeTest {
    private static int wrong = 0;

    private ReadmeTest() {
    }

    private static void check(boolean holds, String otherwise) {
        if (!holds) {
            wrong++;
            System.out.println(otherwise);
        }
    }

    private static List<String> found(String pattern, String text) {
        return Pattern.compile(pattern).matcher(text).results().map(m -> m.group(1)).collect(Collectors.toList());
    }

    /** The folder without the example, in a place where commands may write. */
    private static Path copyOfFolder() throws IOException {
        Path copy = Files.createTempDirectory("readme");
        try (Stream<Path> sources = Files.walk(Path.of("src"))) {
            for (Path source : sources.collect(Collectors.toList())) {
                Files.copy(source, copy.resolve(source));
            }
        }
        return copy;
    }

    private static void remove(Path folder) throws IOException {
        try (Stream<Path> files = Files.walk(folder)) {
            List<Path> all = files.collect(Collectors.toList());
            for (int i = all.size() - 1; i >= 0; i--) {
                Files.delete(all.get(i));
            }
        }
    }

    private static String output(String command, Path folder) throws IOException, InterruptedException {
        Process process = new ProcessBuilder("bash", "-c", command).directory(folder.toFile())
            .redirectErrorStream(true).start();
        String output = new String(process.getInputStream().readAllBytes(), StandardCharsets.UTF_8);
        int code = process.waitFor();
        check(code == 0, "the command " + command + " ends with the exit code " + code + ": " + output);
        return output;
    }

    private static void checkCommands(String readme) throws IOException, InterruptedException {
        String example = String.join("", found("(?s)```java\n(.*?)```", readme));
        String due = String.join("", found("println\\(.*\\); +// (-?\\d+.)", example)).replaceAll("[^-\\d]", "\n");
        check(!due.isEmpty(), "the example answers nothing");
        Path folder = copyOfFolder();
        try {
            Files.writeString(folder.resolve("Example.java"), example);
            List<String> commands = found("(?m)^    (javac? .*)$", readme.replace(example, ""));
            check(commands.size() == 4, "known are 4 commands, the page has " + commands);
            for (String command : commands) {
                String got = output(command, folder);
                check(!command.endsWith(" Example") || got.equals(due), "due is\n" + due + "the example answers\n" + got);
            }
        } finally {
            remove(folder);
        }
        check(readme.contains("\n    .ci/run\n") && Files.isExecutable(Path.of(".ci/run")), "no command .ci/run");
    }

    private static void checkCalls(String readme) throws IOException {
        int calls = 0;
        Matcher method = Pattern.compile("(?m)^    public \\w+ (\\w+)\\((.*?)\\).*;$")
            .matcher(Files.readString(Path.of("../shared/DOC.md")));
        while (method.find()) {
            List<String> names = new ArrayList<>(found("\\w+ (\\w+)", method.group(2)));
            String call = method.group(1) + "(" + String.join(", ", names) + ")";
            check(readme.contains("| `" + call + "` |"), "the page does not tell of " + call);
            calls++;
        }
        check(calls == 30, "the document has 30 methods, read were " + calls);
    }

    private static void checkTests(String readme) throws IOException {
        try (Stream<Path> tests = Files.list(Path.of("src/test/java"))) {
            for (Path test : tests.collect(Collectors.toList())) {
                String name = test.getFileName().toString().replace(".java", "");
                check(readme.contains("- `" + name + "`: "), "the page does not tell of " + name);
            }
        }
    }

    public static void main(String[] args) throws IOException, InterruptedException {
        String readme = Files.readString(Path.of("README.md"));
        checkCommands(readme);
        checkCalls(readme);
        checkTests(readme);
        System.out.println(wrong == 0 ? "the page README.md holds" : wrong + " faults of README.md");
        if (wrong != 0) {
            System.exit(1);
        }
    }
}
