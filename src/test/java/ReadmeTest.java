import java.io.ByteArrayOutputStream;
import java.io.IOException;
import java.io.PrintStream;
import java.lang.reflect.InvocationTargetException;
import java.lang.reflect.Method;
import java.lang.reflect.Modifier;
import java.nio.charset.StandardCharsets;
import java.nio.file.Files;
import java.nio.file.Path;
import java.util.ArrayList;
import java.util.Arrays;
import java.util.HashMap;
import java.util.List;
import java.util.Map;
import java.util.TreeMap;
import java.util.TreeSet;
import java.util.regex.Matcher;
import java.util.regex.Pattern;

/** Whether README.md tells the truth of the class, and of its tests. */
public final class ReadmeTest {
    private static final Path TESTS = Path.of("src/test/java");
    private static final Pattern CALL = Pattern.compile("(?m)^\\| `([a-zA-Z]+)\\(([a-z, ]*)\\)` \\|");
    private static final Pattern REFUSAL = Pattern.compile("(?m)^\\| `([a-zA-Z]+)` \\| `([a-zA-Z]+)` \\| (.*) \\|$");
    private static final Pattern RANGE = Pattern.compile("(\\w+) is not (\\d+) to (\\d+)");
    private static final Pattern LINE = Pattern.compile("(?m)^\\| `([^`]*;)` \\|");
    private static final Pattern TEST = Pattern.compile("(?m)^\\| `(\\w+Test)` \\|");

    public static void main(String[] args) throws IOException {
        new ReadmeTest(Files.readString(Path.of("README.md"))).go();
        Check.end();
    }

    private final String page;
    private final Map<String, Method> face = new TreeMap<>();
    private final Map<String, List<String>> parameters = new TreeMap<>();

    private ReadmeTest(String page) {
        this.page = page;
        for (Method method : DriftOrgan.class.getDeclaredMethods()) {
            if (Modifier.isPublic(method.getModifiers())) {
                face.put(method.getName(), method);
            }
        }
    }

    private void go() throws IOException {
        calls();
        exceptions();
        refusals();
        lines();
        example();
        tests();
    }

    private List<List<String>> found(Pattern pattern) {
        List<List<String>> found = new ArrayList<>();
        for (Matcher matcher = pattern.matcher(page); matcher.find();) {
            List<String> groups = new ArrayList<>();
            for (int group = 1; group <= matcher.groupCount(); group++) {
                groups.add(matcher.group(group));
            }
            found.add(groups);
        }
        return found;
    }

    private void calls() {
        for (List<String> row : found(CALL)) {
            String told = row.get(1);
            List<String> names = told.isEmpty() ? List.of() : List.of(told.split(", "));
            Check.holds(row.get(0) + " is told once", parameters.put(row.get(0), names) == null);
        }
        Check.holds("the calls told are those of the face: " + parameters.keySet(),
                parameters.keySet().equals(face.keySet()));
        face.forEach((name, method) -> Check.same("parameters of " + name, parameters.get(name).size(),
                method.getParameterCount()));
    }

    private void exceptions() {
        Map<String, List<String>> told = new HashMap<>();
        found(REFUSAL).forEach(row -> told.computeIfAbsent(row.get(0), name -> new ArrayList<>()).add(row.get(1)));
        face.forEach((name, method) -> {
            List<String> due = Arrays.stream(method.getExceptionTypes()).map(Class::getSimpleName).toList();
            List<String> got = told.getOrDefault(name, List.of());
            Check.holds(name + " throws " + due + ", told is " + got, due.equals(got));
        });
        String throwNothing = page.substring(0, page.indexOf("making an object throw nothing"));
        String names = throwNothing.substring(throwNothing.lastIndexOf("\n\n"));
        face.keySet().forEach(name -> Check.holds(name + " is told to throw, or not to",
                told.containsKey(name) != names.contains("`" + name + "`")));
    }

    private void refusals() {
        int ranges = 0;
        int missing = 0;
        for (List<String> row : found(REFUSAL)) {
            for (Matcher range = RANGE.matcher(row.get(2)); range.find(); ranges++) {
                int least = Integer.parseInt(range.group(2));
                int most = Integer.parseInt(range.group(3));
                answers(row, range.group(1), least, "nothing");
                answers(row, range.group(1), most, "nothing");
                answers(row, range.group(1), least - 1, row.get(1));
                answers(row, range.group(1), most + 1, row.get(1));
            }
            if (row.get(2).contains("there is no such")) {
                missing++;
                nothingSuch(row);
            }
        }
        Check.same("ranges told", ranges, 12);
        Check.same("rows of what there is not", missing, 8);
        answers(List.of("cut"), "by", 23, "nothing");
        answers(List.of("cut"), "by", 24, "IllegalArgumentException");
        answers(List.of("cut"), "by", 0, "IllegalArgumentException");
        answers(List.of("trim"), "n", 1, "IllegalArgumentException");
    }

    private void nothingSuch(List<String> row) {
        for (String name : parameters.get(row.get(0))) {
            // The lines told have a cave, a chord and two pipes, and both of these in the chord.
            Map<String, Integer> ends = Map.of("cave", 1, "chord", 1, "pipe", 2, "place", 2, "a", 2, "b", 2);
            if (ends.containsKey(name)) {
                answers(row, name, -1, row.get(1));
                answers(row, name, ends.get(name), row.get(1));
                answers(row, name, ends.get(name) - 1, "nothing");
            }
        }
    }

    /** What the call throws, if one argument is that, and the others are such as are not refused. */
    private void answers(List<String> row, String name, int argument, String due) {
        String call = row.get(0);
        List<String> names = parameters.get(call);
        Check.holds(call + " has a parameter " + name, names.contains(name));
        Object[] arguments = new Object[names.size()];
        for (int i = 0; i < arguments.length; i++) {
            boolean fromOne = names.get(i).equals("hours") || names.get(i).equals("by");
            arguments[i] = names.get(i).equals(name) ? argument : fromOne ? 1 : 0;
        }
        String got = thrown(face.get(call), arguments);
        Check.holds(call + Arrays.toString(arguments) + " throws " + got + ", due is " + due, got.equals(due));
    }

    private String thrown(Method method, Object[] arguments) {
        try {
            method.invoke(Check.organ(linesTold()), arguments);
            return "nothing";
        } catch (InvocationTargetException e) {
            return e.getCause().getClass().getSimpleName();
        } catch (IllegalAccessException e) {
            return "no access";
        }
    }

    private String linesTold() {
        StringBuilder list = new StringBuilder();
        found(LINE).forEach(row -> list.append(row.get(0)).append('\n'));
        return list.toString();
    }

    private void lines() {
        DriftOrgan organ = Check.organ(linesTold());
        int[] due = {0, 4, 1, 2, 1, 1, 1, 3};
        for (int what = 0; what < due.length; what++) {
            Check.same("count(" + what + ") of the lines told", organ.count(what), due[what]);
        }
    }

    /** What stands between a line of ``` with that word and the next line of ```. */
    private String block(String word) {
        String opening = "\n```" + word + "\n";
        Check.same("blocks of " + word, page.split(opening, -1).length, 2);
        int start = page.indexOf(opening) + opening.length();
        return page.substring(start, page.indexOf("```\n", start));
    }

    private void example() throws IOException {
        String file = Files.readString(TESTS.resolve("ReadmeExample.java"));
        Check.holds("the example is the file", block("java").equals(file));
        ByteArrayOutputStream printed = new ByteArrayOutputStream();
        PrintStream before = System.out;
        System.setOut(new PrintStream(printed, true, StandardCharsets.UTF_8));
        ReadmeExample.main(new String[0]);
        System.setOut(before);
        String got = printed.toString(StandardCharsets.UTF_8).replace(System.lineSeparator(), "\n");
        Check.holds("the example prints what is told, not\n" + got, block("text").equals(got));
    }

    private void tests() throws IOException {
        TreeSet<String> told = new TreeSet<>();
        found(TEST).forEach(row -> told.add(row.get(0)));
        TreeSet<String> there = new TreeSet<>();
        try (var files = Files.list(TESTS)) {
            files.map(file -> file.getFileName().toString()).filter(name -> name.endsWith("Test.java"))
                    .forEach(name -> there.add(name.replace(".java", "")));
        }
        Check.holds("the tests told are " + told + ", there are " + there, told.equals(there));
    }
}
