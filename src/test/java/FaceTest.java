import java.io.IOException;
import java.lang.reflect.Field;
import java.lang.reflect.Method;
import java.lang.reflect.Modifier;
import java.nio.file.Files;
import java.nio.file.Path;
import java.util.ArrayList;
import java.util.List;
import java.util.Set;
import java.util.TreeSet;
import java.util.regex.Matcher;
import java.util.regex.Pattern;

/** The public face of the document, and those rules of LANGUAGE.md that can be read off the class and its source. */
public final class FaceTest {
    private static final Check CHECK = new Check("FaceTest");
    private static final String[] METHODS = {"int type(long,int)", "int clear()", "int tree()", "int branch(int,int)",
        "int body(int,int)", "int tune(int,int)", "int sawn(int)", "int step(int,int,int)", "int holds(int,int)",
        "long best(int,int,int,int)", "int high(int,int)", "int sure(int,int)", "int help(int,int)", "int stuck(int,int)",
        "long rubbed(int,int,int)", "long tried(int,int,int,int)", "int tries(int,int,int)", "int sway(int,int,int)",
        "int calm(int,int,int)", "int fall(int,int)", "int saw(int,int,int,int)", "int afternoon(int,int,int)",
        "int dares(int,int,int,int)", "int looked(int)", "int goes(int)", "int climb(int)", "int now(int)", "int lot(int)",
        "int mark(int,int)", "int keep(int)", "int back(int)", "int count(int)", "long trace()"};

    public static void main(String[] args) throws IOException {
        face();
        constants();
        insides();
        source(Files.readString(Path.of("src/main/java/TreeClimb.java")));
        CHECK.end();
    }

    private static String told(Method m) {
        List<String> types = new ArrayList<>();
        for (Class<?> type : m.getParameterTypes()) {
            types.add(type.getSimpleName());
        }
        return m.getReturnType().getSimpleName() + " " + m.getName() + "(" + String.join(",", types) + ")";
    }

    private static void face() {
        Set<String> seen = new TreeSet<>();
        Set<String> names = new TreeSet<>();
        for (Method m : TreeClimb.class.getDeclaredMethods()) {
            if (Modifier.isPrivate(m.getModifiers())) continue;
            CHECK.that(m + " is public, no more", m.getModifiers() == Modifier.PUBLIC);
            seen.add(told(m));
            names.add(m.getName());
        }
        CHECK.that("the methods are " + seen, seen.equals(new TreeSet<>(List.of(METHODS))));
        CHECK.same("constructors", TreeClimb.class.getDeclaredConstructors().length, 1);
        CHECK.same("fields on the face", TreeClimb.class.getFields().length, 5);
        CHECK.that("the class is final", Modifier.isFinal(TreeClimb.class.getModifiers()));
        List<Class<?>> classes = new ArrayList<>(List.of(TreeClimb.class.getDeclaredClasses()));
        classes.add(TreeClimb.class);
        for (Class<?> c : classes) {
            for (Method m : c.getDeclaredMethods()) {
                boolean own = c == TreeClimb.class && Modifier.isPublic(m.getModifiers());
                CHECK.that(m + " bears no public one's name", own || !names.contains(m.getName()));
            }
        }
    }

    private static void constants() {
        CHECK.same("BAD", TreeClimb.BAD, -1);
        CHECK.same("STATE", TreeClimb.STATE, -2);
        CHECK.same("FULL", TreeClimb.FULL, -3);
        CHECK.same("NONE", TreeClimb.NONE, -9);
        CHECK.same("NO", TreeClimb.NO, -1000000);
    }

    private static void insides() {
        List<Class<?>> classes = new ArrayList<>(List.of(TreeClimb.class.getDeclaredClasses()));
        CHECK.that("twelve classes at most", classes.size() < 12);
        for (Class<?> c : classes) {
            CHECK.that(c + " is static", Modifier.isStatic(c.getModifiers()));
        }
        classes.add(TreeClimb.class);
        for (Class<?> c : classes) {
            int fields = 0;
            for (Field f : c.getDeclaredFields()) {
                if (Modifier.isStatic(f.getModifiers())) {
                    CHECK.that(f + " is final", Modifier.isFinal(f.getModifiers()));
                } else {
                    fields++;
                }
            }
            CHECK.that(c + " has twenty fields at most", fields <= 20);
            for (Method m : c.getDeclaredMethods()) {
                CHECK.that(m + " has seven parameters at most", m.getParameterCount() <= 7);
            }
        }
    }

    private static void source(String source) {
        String code = source.replaceAll("(?s)/\\*.*?\\*/", "").replaceAll("//[^\n]*", "");
        String[] none = {"throw", "throws", "try", "catch", "finally", "synchronized", "assert", "import", "package",
            "protected", "instanceof", "System", "Object", "hashCode", "toString", "double", "float", "yield", "volatile"};
        for (String word : none) {
            CHECK.that("no " + word, !Pattern.compile("\\b" + word + "\\b").matcher(code).find());
        }
        CHECK.that("no lambda", !code.contains("->"));
        CHECK.that("no method reference", !code.contains("::"));
        CHECK.that("no joining by +", !code.matches("(?s).*(\"\\s*\\+|\\+\\s*\").*"));
        CHECK.that("no annotation", !code.contains("@"));
        CHECK.that("plain signs alone", source.chars().allMatch(c -> c == '\n' || c >= ' ' && c < 127));
        Matcher make = Pattern.compile("new (\\w+)").matcher(code);
        while (make.find()) {
            // Rows are made with the object alone, so that no call takes room.
            String line = code.substring(code.lastIndexOf('\n', make.start()) + 1, make.start());
            CHECK.that("made with the object: " + line, line.contains("private") || line.contains("final")
                || line.contains("images[i] = "));
        }
        lengths(source.split("\n"));
    }

    private static void lengths(String[] lines) {
        int head = -1;
        for (int i = 0; i < lines.length; i++) {
            CHECK.that("lines of 120 signs at most: " + (i + 1), lines[i].length() <= 120);
            if (lines[i].matches("( {4}| {8})(?!if|for|while|switch|do|\\}).*\\) \\{")) {
                head = i;
            }
            if (head >= 0 && lines[i].equals(lines[head].replaceAll("\\S.*", "") + "}")) {
                CHECK.that("methods of sixty lines at most: " + (head + 1), i - head < 60);
                head = -1;
            }
        }
        CHECK.same("methods that do not end", head, -1);
    }
}
