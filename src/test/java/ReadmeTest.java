import java.io.IOException;
import java.lang.reflect.InvocationTargetException;
import java.lang.reflect.Method;
import java.lang.reflect.Modifier;
import java.nio.file.Files;
import java.nio.file.Path;
import java.util.ArrayList;
import java.util.List;
import java.util.Set;
import java.util.TreeSet;
import java.util.regex.Matcher;
import java.util.regex.Pattern;
import java.util.stream.Collectors;
import java.util.stream.Stream;

/** README.md beside the class and the document: what it shows must be answered so, what it lists must be there. */
public final class ReadmeTest {
    private static final Path DOCUMENT = Path.of("../shared/DOC.md");
    private static final Path TESTS = Path.of("src/test/java");
    private static final Pattern SHOWN = Pattern.compile("(\\w+(?:\\.\\w+)?)\\((.*?)\\);\\s*// ([-\\w]+).*");
    private static final Pattern CALL_ROW = Pattern.compile("\\| `(\\w+)\\(([^`]*)\\)` \\| (.*) \\|([ 0-9,]*)\\|");
    private static final Pattern FAULT_ROW = Pattern.compile("\\| ([1-6]) \\|.*\\| `([^`]*)` \\| (\\d+) \\|");
    private static final Pattern LINE_ROW = Pattern.compile("\\| `[^`]* [^`]*` \\| .* \\| (?:1 to|up to) (\\d+)[^|]*\\|");
    private static final Pattern TEST_ROW = Pattern.compile("\\| `(\\w+Test)` \\|.*");
    private static final Check CHECK = new Check("ReadmeTest");

    private ReadmeTest() {
    }

    public static void main(String[] args) throws IOException, ReflectiveOperationException {
        String readme = Files.readString(Path.of("README.md"));
        helper(readme);
        example(readme);
        lines(readme);
        faults(readme);
        calls(readme);
        sameAsDocument(readme);
        tests(readme);
        CHECK.end();
    }

    // README.md shows this method as it stands here; helper() compares the two.
    static int tell(GapLetter x, String text) {
        for (int at = 0; at < text.length(); at += 20) {
            int[] five = new int[5];
            for (int i = 0; i < 20; i++) {
                int sign = at + i < text.length() ? text.charAt(at + i) : ' ';
                five[i / 4] = five[i / 4] << 8 | sign & 255;
            }
            x.feed(five[0], five[1], five[2], five[3], five[4]);
        }
        return x.tongue(text.length());
    }

    private static List<String> rows(String readme, Pattern row) {
        return readme.lines().filter(line -> row.matcher(line).matches()).collect(Collectors.toList());
    }

    /** A block of code that begins so. */
    private static String block(String readme, String begins) {
        int from = readme.indexOf("```java\n" + begins);
        CHECK.same("a block begins with " + begins, from >= 0, true);
        return from < 0 ? "" : readme.substring(from + 8, readme.indexOf("\n```", from));
    }

    private static void helper(String readme) throws IOException {
        String shown = block(readme, "static int tell(").indent(4);
        CHECK.same("tell() is shown as it is run", Files.readString(TESTS.resolve("ReadmeTest.java")).contains(shown), true);
    }

    // ---- the example

    private static String exampleText(String readme) {
        StringBuilder text = new StringBuilder();
        Matcher quoted = Pattern.compile("\"([^\"]*)\"").matcher(block(readme, "String text ="));
        while (quoted.find()) {
            text.append(quoted.group(1));
        }
        return text.toString();
    }

    private static void example(String readme) throws ReflectiveOperationException {
        GapLetter x = new GapLetter();
        String text = exampleText(readme);
        List<String> lines = block(readme, "x.").lines().collect(Collectors.toList());
        CHECK.same("the example has calls", lines.size() > 30, true);
        for (String line : lines) {
            Matcher shown = SHOWN.matcher(line);
            CHECK.same("a call with its answer: " + line, shown.matches(), true);
            if (shown.matches()) {
                String answer = shown.group(1).equals("tell") ? String.valueOf(tell(x, text))
                        : answer(x, shown.group(1).substring(2), shown.group(2));
                CHECK.same(line + " answered " + answer, answer.equals(shown.group(3)), true);
            }
        }
        for (int sort = 0; sort <= 7; sort++) {
            CHECK.same("the example has lines of every sort: " + sort, x.size(sort) > 0, true);
        }
    }

    private static Method method(String name) {
        for (Method method : GapLetter.class.getMethods()) {
            if (method.getName().equals(name)) {
                return method;
            }
        }
        throw new IllegalArgumentException(name);
    }

    private static String answer(GapLetter x, String name, String written) throws ReflectiveOperationException {
        List<Object> numbers = new ArrayList<>();
        for (String number : written.isEmpty() ? new String[0] : written.split(", ")) {
            boolean isFlag = number.equals("true") || number.equals("false");
            numbers.add(isFlag ? (Object) Boolean.valueOf(number) : (Object) Integer.valueOf(number));
        }
        try {
            return String.valueOf(method(name).invoke(x, numbers.toArray()));
        } catch (InvocationTargetException thrown) {
            return thrown.getCause().getClass().getSimpleName();
        }
    }

    // ---- the tables

    /** A line of the form shown, with a name, word or letter of its own. */
    private static String line(String form, int number) {
        String letter = String.valueOf((char) ('a' + number));
        return form.replace("of NAME, NAME", "of t, t").replace("means NAME", "means t").replace("NAME", "n" + letter)
                .replace("SPELT", letter).replace("LETTER", letter).replace("WHOLE", "1");
    }

    /** Each sort of line as often as README.md says, and once more than there is room for. */
    private static void lines(String readme) {
        List<String> listed = rows(readme, LINE_ROW);
        CHECK.same("sorts of lines with their rooms", listed.size(), 8);
        for (String row : listed) {
            Matcher matcher = LINE_ROW.matcher(row);
            String form = row.split("`")[1];
            int room = matcher.matches() ? Integer.parseInt(matcher.group(1)) : 0;
            StringBuilder text = new StringBuilder("tongue year 5;thing t");
            for (int number = form.startsWith("thing") ? 1 : 0; number < room; number++) {
                text.append(';').append(line(form, number));
            }
            CHECK.same(row, tell(new GapLetter(), text.toString()) > 0, true);
            GapLetter x = new GapLetter();
            CHECK.refused(x, "one more: " + row, tell(x, text + ";" + line(form, room)), 4);
            CHECK.same("fault of one more: " + row, x.fault(), 5);
            CHECK.same("where of one more: " + row, x.where(), text.length() + 1);
        }
    }

    private static void faults(String readme) {
        Set<Integer> shown = new TreeSet<>();
        for (String line : rows(readme, FAULT_ROW)) {
            Matcher row = FAULT_ROW.matcher(line);
            if (row.matches()) {
                GapLetter x = new GapLetter();
                CHECK.refused(x, line, tell(x, row.group(2)), 4);
                CHECK.same("fault of " + line, x.fault(), Integer.parseInt(row.group(1)));
                CHECK.same("where of " + line, x.where(), Integer.parseInt(row.group(3)));
                shown.add(x.fault());
            }
        }
        CHECK.same("each fault is shown", shown.size(), 6);
    }

    private static String types(String parameters) {
        return Stream.of(parameters.split(", ")).map(one -> one.split(" ")[0]).collect(Collectors.joining(","));
    }

    private static String types(Method method) {
        return Stream.of(method.getParameterTypes()).map(Class::getName).collect(Collectors.joining(","));
    }

    private static void calls(String readme) {
        List<String> listed = new ArrayList<>();
        for (String line : rows(readme, CALL_ROW)) {
            Matcher row = CALL_ROW.matcher(line);
            if (row.matches()) {
                listed.add(row.group(1) + ":" + types(row.group(2)));
            }
        }
        List<String> face = new ArrayList<>();
        for (Method method : GapLetter.class.getDeclaredMethods()) {
            if (Modifier.isPublic(method.getModifiers())) {
                face.add(method.getName() + ":" + types(method));
            }
        }
        CHECK.same("each call is listed once: " + listed, listed.size(), face.size());
        CHECK.same("the calls listed are the face", new TreeSet<>(listed).equals(new TreeSet<>(face)), true);
    }

    /** Each call with its parameters as the document names them, and with the troubles that it tells. */
    private static void sameAsDocument(String readme) throws IOException {
        if (!Files.exists(DOCUMENT)) {
            return;
        }
        String document = Files.readString(DOCUMENT);
        for (String line : rows(readme, CALL_ROW)) {
            Matcher row = CALL_ROW.matcher(line);
            if (row.matches()) {
                String call = " " + row.group(1) + "(" + row.group(2) + ")";
                int from = document.lastIndexOf("\n`", document.lastIndexOf(call));
                CHECK.same("the document has a promise of" + call, from >= 0, true);
                String promise = document.substring(Math.max(from, 0) + 1).lines().findFirst().orElse("");
                CHECK.same(call + " has its promise: " + promise, promise.contains(call), true);
                CHECK.same(call + " is refused by" + row.group(4) + ": " + promise,
                        troubles(promise).equals(row.group(4).strip()), true);
            }
        }
    }

    /** The numbers that a promise tells behind NONE, false or -1, what stands in brackets aside. */
    private static String troubles(String promise) {
        String plain = promise.replaceAll("\\([^()]*\\)", "");
        Matcher told = Pattern.compile("(?:NONE|false|-1): ([1-6][1-6; ]*)").matcher(plain);
        return told.find() ? told.group(1).strip().replaceAll(" *; *", ", ") : "";
    }

    private static void tests(String readme) throws IOException {
        Set<String> listed = new TreeSet<>();
        for (String line : rows(readme, TEST_ROW)) {
            listed.add(line.split("`")[1] + ".java");
        }
        Set<String> found = new TreeSet<>();
        try (Stream<Path> files = Files.list(TESTS)) {
            files.map(file -> file.getFileName().toString()).filter(name -> name.endsWith("Test.java")).forEach(found::add);
        }
        CHECK.same("the tests listed are those there: " + listed + " " + found, listed.equals(found), true);
    }
}
