import java.io.IOException;
import java.nio.charset.StandardCharsets;
import java.nio.file.Files;
import java.nio.file.Path;
import java.util.ArrayList;
import java.util.Comparator;
import java.util.List;
import java.util.regex.Matcher;
import java.util.regex.Pattern;
import java.util.stream.Stream;

/** What README.md says is so when it is followed word for word: its example, its commands, what they print. */
public final class ReadmeTest {
    private static final Path SOURCES = Path.of("src");
    /** The one command that is not followed here: this test is a part of it. */
    private static final String ALL_TESTS = ".ci/run\n";
    private static int wrong = 0;

    public static void main(String[] args) throws IOException, InterruptedException {
        String readme = Files.readString(Path.of("README.md"));
        Path place = Files.createTempDirectory("readme");
        try {
            follow(readme, place);
        } finally {
            remove(place);
        }
        refusals(readme);
        check(readme.contains("```sh\n" + ALL_TESTS + "```"), "README.md does not say how to run the tests");
        check(Files.isExecutable(Path.of(ALL_TESTS.strip())), ".ci/run can't be run");
        System.out.println(wrong == 0 ? "README.md holds" : wrong + " faults of README.md");
        if (wrong != 0) {
            System.exit(1);
        }
    }

    private static void check(boolean is, String fault) {
        if (!is) {
            wrong++;
            System.out.println(fault);
        }
    }

    private static List<String> blocks(String readme, String kind) {
        List<String> blocks = new ArrayList<>();
        Matcher matcher = Pattern.compile("(?s)```" + kind + "\n(.*?)```\n").matcher(readme);
        while (matcher.find()) {
            blocks.add(matcher.group(1));
        }
        return blocks;
    }

    private static void follow(String readme, Path place) throws IOException, InterruptedException {
        copySources(place);
        List<String> examples = blocks(readme, "java");
        List<String> due = blocks(readme, "text");
        check(examples.size() == 1 && due.size() == 1, "not one example and what it prints");
        Files.writeString(place.resolve("Example.java"), examples.get(0));
        boolean isExampleRun = false;
        for (String commands : blocks(readme, "sh")) {
            if (commands.equals(ALL_TESTS)) {
                continue;
            }
            Path printed = place.resolve("printed");
            Process process = new ProcessBuilder("sh", "-e", "-c", commands).directory(place.toFile())
                    .redirectErrorStream(true).redirectOutput(printed.toFile()).start();
            int exit = process.waitFor();
            String text = Files.readString(printed, StandardCharsets.ISO_8859_1);
            check(exit == 0, "ended with " + exit + ": " + commands + text);
            if (commands.contains("java -cp out Example")) {
                isExampleRun = true;
                check(text.equals(due.get(0)), "the example printed " + text);
            }
        }
        check(isExampleRun, "the example is not run");
    }

    private static void copySources(Path place) throws IOException {
        try (Stream<Path> sources = Files.walk(SOURCES)) {
            for (Path source : (Iterable<Path>) sources::iterator) {
                Files.copy(source, place.resolve(source.toString()));
            }
        }
    }

    private static void remove(Path place) throws IOException {
        try (Stream<Path> files = Files.walk(place)) {
            for (Path file : (Iterable<Path>) files.sorted(Comparator.reverseOrder())::iterator) {
                Files.delete(file);
            }
        }
    }

    /** Each row of the table: a call that is refused so, and where it is counted. */
    private static void refusals(String readme) {
        NeedsALoser x = new NeedsALoser();
        x.rule(0, 1, 0);
        for (int t = 0; t < 7; t++) {
            x.one();
        }
        int[] answers = {x.under(0), x.set(0, 0, 1), x.lives(1), x.back(), x.one()};
        Matcher matcher = Pattern.compile("\\| (-\\d) +\\| ([A-Z]+) +\\| `status\\((\\d+)\\)` \\|").matcher(readme);
        int rows = 0;
        while (matcher.find()) {
            int number = Integer.parseInt(matcher.group(1));
            check(rows < answers.length && answers[rows] == number, "the row of " + matcher.group(2));
            check(x.status(Integer.parseInt(matcher.group(3))) == 1, "where " + matcher.group(2) + " is counted");
            rows++;
        }
        check(rows == answers.length, "rows of refusals: " + rows);
    }
}
