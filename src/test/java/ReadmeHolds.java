import java.io.IOException;
import java.lang.reflect.Method;
import java.lang.reflect.Modifier;
import java.nio.file.Files;
import java.nio.file.Path;
import java.util.ArrayList;
import java.util.List;
import java.util.TreeSet;
import java.util.regex.Matcher;
import java.util.regex.Pattern;
import java.util.stream.Stream;

/** Holds README.md to account: its example, and that it names every call and every test. */
public final class ReadmeHolds {
    private static final Pattern CALL = Pattern.compile("x\\.(\\w+)\\(([-0-9, ]*)\\);");
    private static final Pattern WRITTEN = Pattern.compile("for \\(char c : \"([^\"]*)\"");
    private static final Pattern NAMED_CALL = Pattern.compile("`(\\w+)\\([a-z, ]*\\)`");
    private static final Pattern NAMED_TEST = Pattern.compile("`(\\w+)`");
    private static int wrong = 0;

    public static void main(String[] args) throws Exception {
        List<String> lines = Files.readAllLines(Path.of("README.md"));
        int answers = exampleOf(lines);
        expect("some answers stand in the example", answers >= 10);
        same("calls", namedIn(lines, "|", NAMED_CALL), callsOfTheFace());
        same("tests", namedIn(lines, "- ", NAMED_TEST), testsThatThereAre());
        if (wrong > 0) {
            System.exit(1);
        }
        System.out.println(answers + " answers of README.md: all hold");
    }

    private static int exampleOf(List<String> lines) throws Exception {
        BirdBridge x = new BirdBridge();
        boolean inside = false;
        int answers = 0;
        for (String line : lines) {
            if (line.startsWith("```")) {
                inside = line.equals("```java");
            } else if (inside) {
                writeInto(x, line);
                answers += holdsAgainst(x, line);
            }
        }
        return answers;
    }

    private static void writeInto(BirdBridge x, String line) {
        Matcher written = WRITTEN.matcher(line);
        if (written.find()) {
            for (char c : written.group(1).toCharArray()) {
                x.write(c);
            }
        }
    }

    /** Makes the calls of a line and holds each against the answers behind the two strokes. */
    private static int holdsAgainst(BirdBridge x, String line) throws Exception {
        int strokes = line.indexOf("//");
        Matcher call = CALL.matcher(strokes < 0 ? line : line.substring(0, strokes));
        List<Integer> got = new ArrayList<>();
        while (call.find()) {
            got.add(answerOf(x, call.group(1), call.group(2)));
        }
        if (got.isEmpty()) {
            return 0;
        }
        List<Integer> due = new ArrayList<>();
        String[] told = (strokes < 0 ? "" : line.substring(strokes + 2)).trim().split("[, :]+");
        for (int i = 0; i < told.length && due.size() < got.size(); i++) {
            due.add(numberOf(told[i]));
        }
        expect(line.trim() + " answered " + got, got.equals(due));
        return got.size();
    }

    private static int answerOf(BirdBridge x, String name, String numbers) throws Exception {
        String[] parts = numbers.isBlank() ? new String[0] : numbers.split(",");
        Class<?>[] types = new Class<?>[parts.length];
        Object[] values = new Object[parts.length];
        for (int i = 0; i < parts.length; i++) {
            types[i] = int.class;
            values[i] = Integer.valueOf(parts[i].trim());
        }
        return (Integer) BirdBridge.class.getMethod(name, types).invoke(x, values);
    }

    private static Integer numberOf(String told) {
        switch (told) {
            case "BAD": return BirdBridge.BAD;
            case "NO": return BirdBridge.NO;
            case "FULL": return BirdBridge.FULL;
            case "NONE": return BirdBridge.NONE;
            default: return told.matches("-?[0-9]+") ? Integer.valueOf(told) : null;
        }
    }

    /** What the lines that start so put between ticks ahead of what they say of it. */
    private static TreeSet<String> namedIn(List<String> lines, String start, Pattern named) {
        TreeSet<String> names = new TreeSet<>();
        for (String line : lines) {
            int end = start.equals("|") ? line.indexOf('|', 1) : line.indexOf(':');
            if (line.startsWith(start) && end > 0) {
                Matcher name = named.matcher(line.substring(0, end));
                while (name.find()) {
                    names.add(name.group(1));
                }
            }
        }
        return names;
    }

    private static TreeSet<String> callsOfTheFace() {
        TreeSet<String> names = new TreeSet<>();
        for (Method method : BirdBridge.class.getDeclaredMethods()) {
            if (Modifier.isPublic(method.getModifiers())) {
                names.add(method.getName());
            }
        }
        return names;
    }

    private static TreeSet<String> testsThatThereAre() throws IOException {
        TreeSet<String> names = new TreeSet<>();
        // what else lies under ../shared/tests is not this project's to name
        names.add("BirdBridgeRuns");
        try (Stream<Path> files = Files.list(Path.of("src/test/java"))) {
            files.forEach(file -> names.add(file.getFileName().toString().replace(".java", "")));
        }
        // the four numbers below 0 are told in a list too
        names.addAll(List.of("BAD", "NO", "NONE", "FULL"));
        return names;
    }

    private static void same(String what, TreeSet<String> told, TreeSet<String> due) {
        expect(what + " told: " + told + ", due: " + due, told.equals(due));
    }

    private static void expect(String what, boolean so) {
        if (!so) {
            wrong++;
            System.out.println("README.md: " + what);
        }
    }
}
