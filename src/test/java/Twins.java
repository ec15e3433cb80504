import java.util.ArrayList;
import java.util.List;
import java.util.function.Consumer;
import java.util.function.Supplier;

/**
 * Whether a call changes nothing: of two organs with the same past one is called, and then both have to answer the
 * same to all that comes.
 */
final class Twins {
    private Twins() {
    }

    static void refuse(Supplier<DriftOrgan> past, Class<? extends Exception> due, String told,
            Consumer<DriftOrgan> call) {
        DriftOrgan calm = past.get();
        DriftOrgan called = past.get();
        Class<?> thrown = null;
        try {
            call.accept(called);
        } catch (RuntimeException e) {
            thrown = e.getClass();
        }
        Check.holds(told + " throws " + due.getSimpleName() + " (it threw " + thrown + ")", thrown == due);
        Check.same(told + " was refused; then errorAt()", called.errorAt(), calm.errorAt());
        same(told, calm, called);
    }

    /** That the call answers, but changes nothing. */
    static void ask(Supplier<DriftOrgan> past, String told, Consumer<DriftOrgan> call) {
        DriftOrgan calm = past.get();
        DriftOrgan called = past.get();
        call.accept(called);
        Check.same(told + "; then errorAt()", called.errorAt(), calm.errorAt());
        same(told, calm, called);
    }

    /** That both answer the same from now on, to all but errorAt. */
    static void same(String told, DriftOrgan one, DriftOrgan other) {
        List<String> due = future(one);
        List<String> future = future(other);
        for (int i = 0; i < due.size(); i++) {
            if (!future.get(i).equals(due.get(i))) {
                Check.fail(told + "; then " + future.get(i) + ", without it " + due.get(i));
                return;
            }
        }
        Check.holds(told + "; then the same", true);
    }

    /** An organ on which all is under way: told to the full, with a past, an error behind it and a list on its tape. */
    static DriftOrgan lively() {
        DriftOrgan organ = Check.organ(Lists.FULLEST);
        organ.pass(31);
        organ.setTide(7);
        organ.clean(3);
        organ.cut(2, 3);
        organ.pass(8);
        Check.same("teach of an error", Check.teach(organ, "cave a mouth 9 deep 0;"), 5);
        Check.feed(organ, "cave x mouth 3 deep 2; pipe y in x length 7 reed; swell high 9 every 2 from 1;");
        return organ;
    }

    /** What an organ answers, to calls of all sorts, from now on. */
    private static List<String> future(DriftOrgan organ) {
        List<String> answers = new ArrayList<>();
        answers.add("digest() " + organ.digest());
        answers.add("mean() " + organ.mean());
        foreseen(organ, answers);
        for (int gone = 1; gone <= 30; gone++) {
            answers.add("pass(1) " + organ.pass(1));
            answers.add("digest() behind " + gone + " hours " + organ.digest());
        }
        answers.add("teach() of the tape " + organ.teach());
        answers.add("errorAt() of the tape " + organ.errorAt());
        answers.add("digest() of the tape " + organ.digest());
        answers.add("pass(9) of the tape " + organ.pass(9));
        answers.add("digest() of the tape, behind " + organ.digest());
        return answers;
    }

    private static void foreseen(DriftOrgan organ, List<String> answers) {
        int hour = organ.count(0);
        for (int ahead = 0; ahead < 24; ahead++) {
            answers.add("height " + ahead + " hours ahead " + organ.height(hour + ahead));
            answers.add("isSilent " + ahead + " hours ahead " + organ.isSilent(hour + ahead));
        }
        int pipes = organ.count(3);
        for (int pipe = 0; pipe < pipes; pipe++) {
            answers.add("until(" + pipe + ") " + organ.until(pipe));
            answers.add("apart(0, " + pipe + ") " + organ.apart(0, pipe));
        }
        for (int what = 0; what < 4; what++) {
            answers.add("foresee(50, " + what + ") " + organ.foresee(50, what));
        }
        answers.add("advise(30) " + organ.advise(30));
        answers.add("best(30) " + organ.best(30));
    }
}
