import java.io.IOException;
import java.lang.reflect.Field;
import java.lang.reflect.Method;
import java.lang.reflect.Modifier;
import java.nio.charset.StandardCharsets;
import java.nio.file.Files;
import java.nio.file.Path;
import java.util.ArrayList;
import java.util.List;
import java.util.regex.Matcher;
import java.util.regex.Pattern;

/** What of ../shared/LANGUAGE.md can be seen in the program's text, or asked of its classes. */
public final class RulesTest {
    private static final String[] KEPT_OUT = {"package ", "import ", "->", "::", "synchronized", "assert ", "finally",
        "catch ", "try ", "Exact(", "System.exit", "Random", "nanoTime", "currentTimeMillis", "Thread", "File", "static {",
        " + \"", "\" + ", "while (true)", "for (;;)", "null", ".equals(", "(Object"};
    private static final Pattern THROW = Pattern.compile(
            "throw new (IllegalStateException|IllegalArgumentException|IndexOutOfBoundsException)\\(\"[a-z, ]+\"\\);");

    public static void main(String[] args) throws IOException {
        String text = Files.readString(Path.of("src/main/java/DriftOrgan.java"), StandardCharsets.ISO_8859_1);
        keptOut(withoutComments(text));
        thrown(withoutComments(text));
        signs(text);
        lengthsOfMethods(text);
        classes();
        Check.end();
    }

    private static String withoutComments(String text) {
        return text.replaceAll("(?s)/\\*.*?\\*/", "").replaceAll("//[^\n]*", "");
    }

    private static void keptOut(String code) {
        for (String words : KEPT_OUT) {
            Check.holds("no " + words, !code.contains(words));
        }
    }

    private static void thrown(String code) {
        Matcher matcher = THROW.matcher(code);
        int asDue = 0;
        while (matcher.find()) {
            asDue++;
        }
        int all = code.split("throw ", -1).length - 1;
        Check.same("throws of a document's exception with a written text", asDue, all);
        Check.holds("there are some", all > 10);
    }

    private static void signs(String text) {
        for (int i = 0; i < text.length(); i++) {
            char sign = text.charAt(i);
            if (sign != '\n' && (sign < ' ' || sign > '~')) {
                Check.fail("the sign " + (int) sign + " at " + i);
            }
        }
    }

    /** From a line that ends in { to the } below it, both as far in as methods of the class or of one inside it. */
    private static void lengthsOfMethods(String text) {
        String[] lines = text.split("\n");
        for (String indent : new String[] {"    ", "        "}) {
            int start = -1;
            for (int i = 0; i < lines.length; i++) {
                boolean opens = lines[i].startsWith(indent) && !lines[i].startsWith(indent + " ") && lines[i].endsWith(") {");
                if (opens) {
                    start = i;
                } else if (lines[i].equals(indent + "}") && start >= 0) {
                    Check.holds("at most 60 lines from " + (start + 1), i - start + 1 <= 60);
                    start = -1;
                }
            }
        }
    }

    private static List<Class<?>> allClasses() {
        List<Class<?>> classes = new ArrayList<>();
        classes.add(DriftOrgan.class);
        for (Class<?> inside : DriftOrgan.class.getDeclaredClasses()) {
            classes.add(inside);
            Check.same(inside + " has no classes inside", inside.getDeclaredClasses().length, 0);
            int modifiers = inside.getModifiers();
            Check.holds(inside + " is static, and neither public nor protected", Modifier.isStatic(modifiers)
                    && !Modifier.isPublic(modifiers) && !Modifier.isProtected(modifiers));
        }
        return classes;
    }

    private static void classes() {
        List<Class<?>> classes = allClasses();
        Check.holds("at most twelve classes", classes.size() <= 12);
        for (Class<?> each : classes) {
            int fields = 0;
            for (Field field : each.getDeclaredFields()) {
                if (Modifier.isStatic(field.getModifiers())) {
                    boolean constant = field.getType() == int.class || field.getType() == String.class;
                    Check.holds(field + " is a constant", Modifier.isFinal(field.getModifiers()) && constant);
                } else {
                    fields++;
                }
            }
            Check.holds(each + " has at most twenty fields", fields <= 20);
            for (Method method : each.getDeclaredMethods()) {
                Check.holds(method + " has at most seven parameters", method.getParameterCount() <= 7);
            }
        }
    }
}
