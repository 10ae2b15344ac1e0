import java.io.IOException;
import java.nio.charset.StandardCharsets;
import java.nio.file.Files;
import java.nio.file.Path;
import java.util.ArrayList;
import java.util.List;
import java.util.regex.Matcher;
import java.util.regex.Pattern;

/** README.md answers as the class does: each line of its examples is run, and its table has each call of the face. */
public final class ReadmeHolds {
    private static final Pattern MAKES = Pattern.compile("HeightSheet x = new HeightSheet\\(\\);");
    private static final Pattern FEEDS = Pattern.compile("for \\(char c : \"([^\"]*)\"\\.toCharArray\\(\\)\\) x\\.feed\\(c\\);");
    private static final Pattern CALLS = Pattern.compile("x\\.(\\w+)\\(([-\\d, ]*)\\); +// (-?\\d+|BAD|STATE|FULL|NONE)(:.*)?");
    private static final Pattern ROW_OF_CALLS = Pattern.compile("\\| `(\\w+\\([\\w, ]*\\))` \\|.*");
    private static final Pattern ROW_OF_ANSWERS = Pattern.compile("\\| `(BAD|STATE|FULL|NONE)` \\| (-\\d) \\|.*");
    private static int wrong = 0;
    private static int asked = 0;

    private static void check(boolean holds, String what) {
        if (!holds) {
            wrong++;
            System.out.println("README.md: " + what);
        }
    }

    public static void main(String[] args) throws IOException {
        List<String> lines = Files.readAllLines(Path.of("README.md"), StandardCharsets.UTF_8);
        examples(lines);
        tableOfCalls(lines);
        tableOfAnswers(lines);
        howToRunTheTests(lines);
        System.out.println(wrong == 0 ? "README.md holds, by " + asked + " answers" : wrong + " things do not hold");
        if (wrong != 0) System.exit(1);
    }

    private static void examples(List<String> lines) {
        boolean isInside = false;
        Run x = null;
        for (String line : lines) {
            if (line.startsWith("```")) {
                isInside = line.equals("```java");
            } else if (isInside) {
                x = runs(x, line);
            }
        }
        check(asked >= 25, "there are examples");
    }

    /** A line that is none of the three forms is a fault: what this can not run may say anything. */
    private static Run runs(Run x, String line) {
        if (MAKES.matcher(line).matches()) return new Run();
        Matcher feeds = FEEDS.matcher(line);
        Matcher calls = CALLS.matcher(line);
        if (x != null && feeds.matches()) {
            x.ask("type " + feeds.group(1));
        } else if (x != null && calls.matches()) {
            asked++;
            int got = x.ask((calls.group(1) + " " + calls.group(2).replaceAll("[, ]+", " ")).strip());
            int due = numberOf(calls.group(3));
            check(got == due, line + " answered " + got);
        } else {
            check(false, "can not be run: " + line);
        }
        return x;
    }

    private static int numberOf(String word) {
        switch (word) {
            case "BAD": return HeightSheet.BAD;
            case "STATE": return HeightSheet.STATE;
            case "FULL": return HeightSheet.FULL;
            case "NONE": return HeightSheet.NONE;
            default: return Integer.parseInt(word);
        }
    }

    private static void tableOfCalls(List<String> lines) {
        List<String> due = new ArrayList<>();
        for (String call : Document.face()) due.add(call.replace("int ", ""));
        List<String> told = new ArrayList<>();
        for (String line : lines) {
            Matcher row = ROW_OF_CALLS.matcher(line);
            if (row.matches()) told.add(row.group(1));
        }
        check(told.equals(due), "the calls are " + due + ", not " + told);
    }

    private static void tableOfAnswers(List<String> lines) {
        List<String> told = new ArrayList<>();
        for (String line : lines) {
            Matcher row = ROW_OF_ANSWERS.matcher(line);
            if (!row.matches()) continue;
            told.add(row.group(1));
            check(numberOf(row.group(1)) == Integer.parseInt(row.group(2)), line);
        }
        check(told.equals(List.of("BAD", "STATE", "FULL", "NONE")), "it tells BAD, STATE, FULL, NONE, not " + told);
    }

    private static void howToRunTheTests(List<String> lines) {
        check(lines.contains("    .ci/run") && Files.isExecutable(Path.of(".ci/run")), ".ci/run is named and can be run");
        String all = String.join("\n", lines);
        for (String name : new String[] {"src/test/java", "../shared/tests"}) check(all.contains(name), "tests of " + name + " are named");
        try (java.util.stream.Stream<Path> tests = Files.list(Path.of("src/test/java"))) {
            tests.map(test -> test.getFileName().toString().replace(".java", ""))
                    .forEach(name -> check(all.contains("`" + name + "`"), "the test " + name + " is named"));
        } catch (IOException e) {
            check(false, "the tests can not be listed: " + e);
        }
    }
}
