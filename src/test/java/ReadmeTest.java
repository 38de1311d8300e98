import java.io.IOException;
import java.nio.file.Files;
import java.nio.file.Path;
import java.util.ArrayList;
import java.util.List;
import java.util.Set;
import java.util.TreeSet;
import java.util.regex.MatchResult;
import java.util.regex.Pattern;
import java.util.stream.Collectors;
import java.util.stream.Stream;

/** README.md: its example answers what it says, and it tells every method, constant, kind and test, and no other. */
public final class ReadmeTest {
    private static final Pattern CALL = Pattern.compile("market\\.(\\w+)\\(([^()]*)\\); +// ([^ :]+): .+");

    private final String readme;
    private final String source;

    private ReadmeTest(String readme, String source) {
        this.readme = readme;
        this.source = source;
    }

    public static void main(String[] args) throws IOException {
        ReadmeTest test = new ReadmeTest(Files.readString(Path.of("README.md")),
            Files.readString(Path.of("src/main/java/CallMarket.java")));
        test.example();
        test.methods();
        test.constants();
        test.kinds();
        test.tests();
        Check.end();
    }

    private void example() {
        List<String> lines = new ArrayList<>(between("```java\n", "```").lines().toList());
        same("the example's first line", Set.of("CallMarket market = new CallMarket();"), Set.of(lines.remove(0)));
        Rows rows = new Rows("README.md");
        Set<String> called = new TreeSet<>();
        for (String line : lines) {
            List<MatchResult> found = CALL.matcher(line).results().toList();
            Check.due("README.md tells a call and its answer: " + line, found.size(), 1);
            for (MatchResult call : found) {
                called.add(call.group(1));
                rows.run(call.group(1) + " " + call.group(2).replace(",", "") + " = " + call.group(3));
            }
        }
        same("the methods in the example", all(source, "(?m)^    public \\w+ (\\w+)\\("), called);
    }

    private void methods() {
        same("the methods", all(source, "(?m)^    public (\\w+ \\w+\\(.*\\)) \\{"),
            all(readme, "(?m)^- `(\\w+ \\w+\\(.*?\\))`: "));
    }

    private void constants() {
        same("the constants", all(source, "(?m)^    public static final int (\\w+ = -?\\d+);"),
            all(readme, "(?m)^\\| `([A-Z]+)` \\| (-?\\d+) \\|"));
    }

    private void kinds() {
        same("the kinds", Set.of("LIMIT = 0", "NOW = 2", "ALL = 4", "MARKET = 6", "POST = 8", "ICEBERG = 10"),
            all(readme, "(?m)^\\| ([A-Z]+) \\| (\\d+) \\| \\d+ \\|"));
        same("the kinds that sell", Set.of("LIMIT = 1", "NOW = 3", "ALL = 5", "MARKET = 7", "POST = 9", "ICEBERG = 11"),
            all(readme, "(?m)^\\| ([A-Z]+) \\| \\d+ \\| (\\d+) \\|"));
    }

    private void tests() throws IOException {
        try (Stream<Path> files = Files.list(Path.of("src/test/java"))) {
            Set<String> names = files.map(file -> file.getFileName().toString())
                .filter(name -> name.endsWith("Test.java"))
                .map(name -> name.replace(".java", ""))
                .collect(Collectors.toSet());
            same("the tests", names, all(between("| test | promises |\n", "\n\n"), "`(\\w+Test)`"));
        }
    }

    private String between(String start, String end) {
        int from = readme.indexOf(start) + start.length();
        return readme.substring(from, readme.indexOf(end, from));
    }

    /** What the pattern finds in the text; two groups are joined as in a constant's declaration. */
    private static Set<String> all(String text, String pattern) {
        return Pattern.compile(pattern).matcher(text).results()
            .map(found -> found.group(1) + (found.groupCount() == 2 ? " = " + found.group(2) : ""))
            .collect(Collectors.toCollection(TreeSet::new));
    }

    private static void same(String what, Set<String> due, Set<String> told) {
        Check.due("README.md: " + what + ", due " + new TreeSet<>(due) + ", told " + told, told.equals(due), true);
    }
}
