import java.io.IOException;
import java.lang.reflect.Method;
import java.lang.reflect.Modifier;
import java.nio.file.Files;
import java.nio.file.Path;
import java.util.ArrayList;
import java.util.HashMap;
import java.util.List;
import java.util.Map;
import java.util.Set;
import java.util.TreeSet;
import java.util.regex.Matcher;
import java.util.regex.Pattern;
import java.util.stream.Stream;

/** What README.md says of the class and its tests: each call, each range, each answer of its example, each test. */
public final class ReadmeTest {
    private static final Dues DUES = new Dues("ReadmeTest");
    private static final String OUTSIDE = "throws.IndexOutOfBoundsException", ILLEGAL = "throws.IllegalArgumentException";

    public static void main(String[] args) throws IOException {
        if (args.length != 1) {
            DUES.compare("the source's path", "missing", "the only argument");
            DUES.end();
            return;
        }
        Path source = Path.of(args[0]).toAbsolutePath().normalize();
        Path root = source.getParent().getParent().getParent().getParent();
        String readme = Files.readString(root.resolve("README.md"));
        List<String> signatures = found(readme, "(?m)^\\| `((?:int|long|boolean) \\w+\\([^)]*\\))` \\|");
        calls(signatures, Files.readString(source));
        example(readme);
        ranges(readme, signatures);
        tests(readme, root.resolve("src/test/java"));
        DUES.end();
    }

    private static List<String> found(String text, String pattern) {
        List<String> all = new ArrayList<>();
        Matcher matcher = Pattern.compile(pattern).matcher(text);
        while (matcher.find()) {
            all.add(matcher.group(1));
        }
        return all;
    }

    /** All public calls, in the order of the class, with the names of their arguments, and no other. */
    private static void calls(List<String> signatures, String source) {
        DUES.compare("the calls", signatures.toString(), found(source, "public ((?:int|long|boolean) \\w+\\([^)]*\\))").toString());
        Set<String> named = new TreeSet<>(found(signatures.toString(), " (\\w+)\\("));
        Set<String> there = new TreeSet<>();
        for (Method method : Brightband.class.getDeclaredMethods()) {
            if (Modifier.isPublic(method.getModifiers())) {
                there.add(method.getName());
            }
        }
        DUES.compare("the calls' names", named.toString(), there.toString());
    }

    /** Each line of the example has its answer behind it. */
    private static void example(String readme) {
        String block = readme.substring(readme.indexOf("```java"), readme.indexOf("```\n", readme.indexOf("```java")));
        List<String> rows = new ArrayList<>();
        for (String line : block.split("\n")) {
            if (line.startsWith("x.")) {
                rows.add(line.replaceFirst("^x\\.(.*?); *// (-?\\w+).*$", "$1 = $2"));
            }
        }
        DUES.compare("the example has answers", "" + (rows.size() > 10), "true");
        DUES.run("the example", rows);
    }

    /** A call throws just beyond the ends of the range that stands for its argument, and not at them. */
    private static void ranges(String readme, List<String> signatures) {
        Map<String, int[]> ranges = new HashMap<>();
        Matcher row = Pattern.compile("(?m)^\\| `(\\w+)` \\| (\\d+) to (\\d+)").matcher(readme);
        while (row.find()) {
            ranges.put(row.group(1), new int[] {Integer.parseInt(row.group(2)), Integer.parseInt(row.group(3))});
        }
        // 0 stands beside the range of a period, for no drift.
        DUES.compare("no drift", "" + readme.contains("| `period` | 1 to 60, or 0 for no drift |"), "true");
        ranges.put("period", new int[] {0, 60});
        for (String signature : signatures) {
            rangesOf(signature.replaceFirst("^\\w+ ", ""), ranges);
        }
    }

    private static void rangesOf(String signature, Map<String, int[]> ranges) {
        String inside = signature.substring(signature.indexOf('(') + 1, signature.indexOf(')'));
        String call = signature.substring(0, signature.indexOf('('));
        String[] names = inside.isEmpty() ? new String[0] : inside.replaceAll("(int|boolean) ", "").split(", ");
        for (int i = 0; i < names.length; i++) {
            int[] range = ranges.get(names[i]);
            if (!inside.contains("boolean " + names[i])) {
                DUES.compare("the range of " + names[i] + " stands there", "" + (range != null), "true");
            }
            if (range != null) {
                String thrown = names[i].equals("kilometre") || names[i].equals("layer") ? OUTSIDE : ILLEGAL;
                ask(call, names, ranges, i, range[0] - 1, thrown);
                ask(call, names, ranges, i, range[0], "nothing");
                ask(call, names, ranges, i, range[1], "nothing");
                ask(call, names, ranges, i, range[1] + 1, thrown);
            }
        }
    }

    private static void ask(String call, String[] names, Map<String, int[]> ranges, int at, int value, String due) {
        List<String> given = new ArrayList<>();
        for (int i = 0; i < names.length; i++) {
            int[] range = ranges.get(names[i]);
            given.add(i == at ? "" + value : range == null ? "true" : "" + range[0]);
        }
        Calls calls = new Calls();
        calls.answer("gauge(0, true)");
        calls.answer("gauge(19, true)");
        String what = call + "(" + String.join(", ", given) + ")";
        String answer = calls.answer(what);
        DUES.compare(what, answer.startsWith("throws") ? answer : "nothing", due);
    }

    /** Each test of the project has a row, and each row a test. */
    private static void tests(String readme, Path folder) throws IOException {
        Set<String> there = new TreeSet<>();
        try (Stream<Path> files = Files.list(folder)) {
            files.map(file -> file.getFileName().toString()).filter(name -> name.endsWith("Test.java"))
                .forEach(name -> there.add(name.replace(".java", "")));
        }
        DUES.compare("the tests", new TreeSet<>(found(readme, "(?m)^\\| `(\\w+Test)` \\|")).toString(), there.toString());
    }
}
