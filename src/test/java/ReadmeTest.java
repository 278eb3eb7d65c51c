import java.io.IOException;
import java.lang.reflect.Method;
import java.lang.reflect.Modifier;
import java.nio.file.Files;
import java.nio.file.Path;
import java.util.Arrays;
import java.util.List;
import java.util.Map;
import java.util.Set;
import java.util.TreeMap;
import java.util.TreeSet;
import java.util.regex.Matcher;
import java.util.regex.Pattern;
import java.util.stream.Collectors;
import java.util.stream.Stream;

/** What README.md says is so: its example, its tables, the classes and tests that it names. */
public final class ReadmeTest {
    private static final Due DUE = new Due("ReadmeTest");
    private static final Pattern MADE = Pattern.compile("PriceBench bench = new PriceBench\\(\\);");
    private static final Pattern CALL =
            Pattern.compile("(?:int (\\w+) = )?bench\\.(\\w+)\\(([^)]*)\\);\\s+// (-?\\d+)(?:[,: ].*)?");
    /** Names that the page gives to answers that are refusals, or tell that there is nothing. */
    private static final Pattern NAMED = Pattern.compile("// (-?\\d+), ([A-Z]+):.*");
    private static final Map<String, Long> CONSTANTS = Map.of("NONE", (long) PriceBench.NONE, "BAD", (long) PriceBench.BAD,
            "STATE", (long) PriceBench.STATE, "FULL", (long) PriceBench.FULL, "NO", PriceBench.NO);

    private final List<String> page;

    private ReadmeTest(List<String> page) {
        this.page = page;
    }

    /** The lines under a heading, up to the next one of its rank or a higher one. */
    private List<String> under(String heading) {
        int from = page.indexOf(heading);
        DUE.holds("the page has the heading " + heading, from >= 0);
        int rank = heading.indexOf(' ');
        int to = from + 1;
        while (to < page.size() && !page.get(to).matches("#{1," + rank + "} .*")) {
            to++;
        }
        return page.subList(from + 1, to);
    }

    private static Method methodOf(String name) {
        return Arrays.stream(PriceBench.class.getDeclaredMethods())
                .filter(method -> Modifier.isPublic(method.getModifiers()) && method.getName().equals(name))
                .findFirst().orElse(null);
    }

    private static Object[] valuesOf(String arguments, Map<String, Integer> variables) {
        return Stream.of(arguments.split(", *")).filter(text -> !text.isEmpty())
                .map(text -> variables.containsKey(text) ? variables.get(text) : Integer.valueOf(text)).toArray();
    }

    /** Runs the example line by line: each line of it makes the bench or is one call with its answer behind it. */
    private void example() throws ReflectiveOperationException {
        List<String> lines = under("### An example");
        lines = lines.subList(lines.indexOf("```java") + 1, lines.lastIndexOf("```"));
        Map<String, Integer> variables = new TreeMap<>();
        PriceBench bench = null;
        int calls = 0;
        for (String line : lines) {
            Matcher call = CALL.matcher(line);
            if (MADE.matcher(line).matches()) {
                bench = new PriceBench();
            } else if (!line.isEmpty()) {
                DUE.holds("the example's line is a call with its answer: " + line, call.matches());
                Number got = (Number) methodOf(call.group(2)).invoke(bench, valuesOf(call.group(3), variables));
                DUE.is("the example's " + line, got.longValue(), Long.parseLong(call.group(4)));
                if (call.group(1) != null) {
                    variables.put(call.group(1), got.intValue());
                }
                calls++;
            }
            Matcher named = NAMED.matcher(line);
            if (named.find()) {
                DUE.is("the example's " + named.group(2), CONSTANTS.get(named.group(2)), Long.parseLong(named.group(1)));
            }
        }
        DUE.holds("the example has more than forty calls", calls > 40);
    }

    /** "name 3" for a method of three arguments. */
    private void calls() {
        Set<String> told = new TreeSet<>();
        for (String line : under("### What calls answer")) {
            if (line.startsWith("| `")) {
                Matcher call = Pattern.compile("`(\\w+)\\(([^)]*)\\)`").matcher(line.substring(0, line.indexOf('|', 1)));
                while (call.find()) {
                    int many = call.group(2).isEmpty() ? 0 : call.group(2).split(",").length;
                    DUE.holds(call.group(1) + " is told once", told.add(call.group(1) + " " + many));
                }
            }
        }
        Set<String> due = Arrays.stream(PriceBench.class.getDeclaredMethods())
                .filter(method -> Modifier.isPublic(method.getModifiers()))
                .map(method -> method.getName() + " " + method.getParameterCount())
                .collect(Collectors.toCollection(TreeSet::new));
        DUE.holds("the calls are " + due + ", not " + told, due.equals(told));
    }

    private void refusals() {
        List<String> lines = under("### What calls refuse");
        Set<Long> told = new TreeSet<>();
        for (String line : lines) {
            Matcher row = Pattern.compile("\\| (?:`([A-Z]+)`)? ?\\| (-\\d+) \\|.*").matcher(line);
            if (row.matches()) {
                long answer = Long.parseLong(row.group(2));
                told.add(answer);
                if (row.group(1) != null) {
                    DUE.is(row.group(1), CONSTANTS.get(row.group(1)), answer);
                }
            }
        }
        DUE.holds("all refusals are told, not only " + told, told.equals(Set.of(-2L, -3L, -4L, -11L, -12L, -13L, -14L)));
        String text = String.join(" ", lines);
        DUE.holds("NONE is told", text.contains("`NONE` (" + PriceBench.NONE + ")"));
        DUE.holds("NO is told", text.contains("`NO` (" + PriceBench.NO + ")"));
    }

    private static Set<String> wordsIn(List<String> lines, String pattern) {
        return Pattern.compile("`(" + pattern + ")`").matcher(String.join("\n", lines)).results()
                .map(found -> found.group(1)).collect(Collectors.toCollection(TreeSet::new));
    }

    private void classes() {
        Set<String> due = Arrays.stream(PriceBench.class.getDeclaredClasses()).map(Class::getSimpleName)
                .collect(Collectors.toCollection(TreeSet::new));
        Set<String> told = wordsIn(under("## How it is built"), "[A-Z][a-z]+");
        DUE.holds("the classes are " + due + ", not " + told, due.equals(told));
    }

    private void tests() throws IOException {
        try (Stream<Path> files = Files.list(Path.of("src/test/java"))) {
            Set<String> due = files.map(file -> file.getFileName().toString()).filter(name -> name.endsWith("Test.java"))
                    .map(name -> name.substring(0, name.length() - 5)).collect(Collectors.toCollection(TreeSet::new));
            Set<String> told = wordsIn(under("## How to run the tests"), "\\w+Test");
            DUE.holds("the tests are " + due + ", not " + told, due.equals(told));
        }
        DUE.holds(".ci/run can be run", Files.isExecutable(Path.of(".ci/run")));
    }

    public static void main(String[] args) throws IOException, ReflectiveOperationException {
        ReadmeTest test = new ReadmeTest(Files.readAllLines(Path.of("README.md")));
        test.example();
        test.calls();
        test.refusals();
        test.classes();
        test.tests();
        DUE.end();
    }
}
