import java.io.IOException;
import java.lang.reflect.Method;
import java.lang.reflect.Modifier;
import java.nio.charset.StandardCharsets;
import java.nio.file.Files;
import java.nio.file.Path;
import java.util.Collection;
import java.util.List;
import java.util.TreeMap;
import java.util.TreeSet;
import java.util.regex.Matcher;
import java.util.regex.Pattern;
import java.util.stream.Collectors;
import java.util.stream.Stream;

/** README.md answers as the class does: its example line by line, the calls and constants that it names, the tests. */
public final class ReadmeTest {
    private static final Check CHECK = new Check("ReadmeTest");
    private static final Pattern LINE = Pattern.compile("x\\.(\\w+)\\(([^)]*)\\); +// (?:\"(.*)\"|(-?\\d+)(?::.*)?)");

    public static void main(String[] args) throws IOException {
        String readme = Files.readString(Path.of("README.md"));
        CHECK.test("the example", () -> example(readme));
        CHECK.test("the calls", () -> calls(readme));
        CHECK.test("the constants", () -> constants(readme));
        Collection<String> tests;
        try (Stream<Path> files = Files.list(Path.of("src/test/java"))) {
            tests = files.map(f -> f.getFileName().toString().replace(".java", "")).collect(Collectors.toList());
        }
        for (String test : tests) {
            CHECK.that("it names " + test, readme.contains("`" + test + "`"));
        }
        CHECK.end();
    }

    private static void example(String readme) {
        String[] parts = readme.split("```");
        CHECK.same("one example", parts.length, 3);
        List<String> lines = parts[1].lines().filter(line -> line.startsWith("x.")).collect(Collectors.toList());
        CHECK.that("lines to ask", lines.size() > 9);
        Caller x = new Caller(new TreeClimb());
        for (String line : lines) {
            Matcher m = LINE.matcher(line);
            CHECK.that("a call and what it answers: " + line, m.matches());
            String call = m.group(1);
            for (String number : m.group(2).split(", *")) {
                call += number.isEmpty() ? "" : " " + Long.decode(number.replace("L", ""));
            }
            long answer = x.ask(call);
            if (m.group(3) == null) {
                CHECK.same(line, answer, Long.parseLong(m.group(4)));
            } else {
                CHECK.that(line, call.equals(typing(m.group(3))));
            }
        }
    }

    private static String typing(String text) {
        long v = 0;
        for (byte b : text.getBytes(StandardCharsets.ISO_8859_1)) {
            v = v << 8 | b & 255;
        }
        return "type " + v + " " + text.length();
    }

    /** Each call of the face is named with as many numbers as it takes, and there is no other. */
    private static void calls(String readme) {
        TreeMap<String, Integer> named = new TreeMap<>();
        Matcher m = Pattern.compile("`(\\w+)\\(([^)]*)\\)`").matcher(readme);
        while (m.find()) {
            int numbers = m.group(2).isEmpty() ? 0 : m.group(2).split(",").length;
            CHECK.same("numbers of " + m.group(1), named.getOrDefault(m.group(1), numbers), numbers);
            named.put(m.group(1), numbers);
        }
        TreeMap<String, Integer> due = new TreeMap<>();
        for (Method method : TreeClimb.class.getDeclaredMethods()) {
            if (Modifier.isPublic(method.getModifiers())) {
                due.put(method.getName(), method.getParameterCount());
            }
        }
        CHECK.that("the calls are " + named + ", due are " + due, named.equals(due));
    }

    private static void constants(String readme) {
        TreeSet<String> due = new TreeSet<>();
        due.add("`BAD` (" + TreeClimb.BAD + ")");
        due.add("`STATE` (" + TreeClimb.STATE + ")");
        due.add("`FULL` (" + TreeClimb.FULL + ")");
        due.add("`NONE` (" + TreeClimb.NONE + ")");
        due.add("`NO` (" + TreeClimb.NO + ")");
        for (String constant : due) {
            CHECK.that("it names " + constant, readme.contains(constant));
        }
    }
}
