import java.lang.reflect.Constructor;
import java.lang.reflect.Method;
import java.lang.reflect.Modifier;
import java.util.ArrayList;
import java.util.Arrays;
import java.util.List;
import java.util.TreeSet;

/** The public face of the class, as the document writes it. */
public final class FaceTest {
    private static final String FACE = """
            int feed(int, int, int, int, int) throws IllegalStateException
            int trim(int) throws IllegalArgumentException
            int teach()
            int errorAt()
            int count(int) throws IndexOutOfBoundsException
            int cave(int, int) throws IndexOutOfBoundsException
            int pipe(int, int) throws IndexOutOfBoundsException
            int chord(int, int) throws IndexOutOfBoundsException
            int note(int, int) throws IndexOutOfBoundsException
            int apart(int, int) throws IndexOutOfBoundsException
            int height(int) throws IllegalArgumentException
            boolean isSilent(int) throws IllegalArgumentException
            int setTide(int) throws IllegalArgumentException
            int clean(int) throws IndexOutOfBoundsException
            int cut(int, int) throws IndexOutOfBoundsException, IllegalArgumentException
            int pass(int) throws IllegalArgumentException
            int until(int) throws IndexOutOfBoundsException
            int foresee(int, int) throws IllegalArgumentException, IndexOutOfBoundsException
            int advise(int) throws IllegalArgumentException
            int best(int) throws IllegalArgumentException
            double mean()
            long digest()
            """;

    public static void main(String[] args) {
        Check.holds("public and final",
                Modifier.isPublic(DriftOrgan.class.getModifiers()) && Modifier.isFinal(DriftOrgan.class.getModifiers()));
        TreeSet<String> due = new TreeSet<>(Arrays.asList(FACE.strip().split("\n")));
        TreeSet<String> got = new TreeSet<>();
        for (Method method : DriftOrgan.class.getDeclaredMethods()) {
            if (Modifier.isPublic(method.getModifiers())) {
                got.add(told(method));
            } else {
                Check.holds(method + " is private", Modifier.isPrivate(method.getModifiers()));
            }
        }
        Check.holds("the face is " + due + ", got " + got, due.equals(got));
        for (Class<?> inside : DriftOrgan.class.getDeclaredClasses()) {
            for (Method method : inside.getDeclaredMethods()) {
                Check.holds(method + " bears no name of the face", !FACE.contains(" " + method.getName() + "("));
            }
        }
        Constructor<?>[] constructors = DriftOrgan.class.getDeclaredConstructors();
        Check.holds("one public constructor without arguments", constructors.length == 1
                && Modifier.isPublic(constructors[0].getModifiers()) && constructors[0].getParameterCount() == 0);
        Arrays.stream(DriftOrgan.class.getDeclaredFields())
                .forEach(field -> Check.holds(field + " is private", Modifier.isPrivate(field.getModifiers())));
        Check.end();
    }

    private static String told(Method method) {
        List<String> parameters = new ArrayList<>();
        for (Class<?> type : method.getParameterTypes()) {
            parameters.add(type.getSimpleName());
        }
        List<String> thrown = new ArrayList<>();
        for (Class<?> type : method.getExceptionTypes()) {
            thrown.add(type.getSimpleName());
        }
        return method.getReturnType().getSimpleName() + " " + method.getName() + "(" + String.join(", ", parameters)
                + ")" + (thrown.isEmpty() ? "" : " throws " + String.join(", ", thrown));
    }
}
