import java.util.Random;
import java.util.TreeMap;
import java.util.function.LongSupplier;

/** All promises: random runs of calls, each answered by the program and by the Reference alike. */
public final class RandomRunsTest {
    private static final int RUNS = 1200;
    private static final int CALLS = 90;
    // Behind 512 calls nothing is promised; the last few are left for what comes behind the last teach.
    private static final int MOST_CALLS = 500;

    private static final TreeMap<String, Integer> SEEN = new TreeMap<>();

    public static void main(String[] args) {
        int runs = args.length > 0 ? Integer.parseInt(args[0]) : RUNS;
        int seed = args.length > 1 ? Integer.parseInt(args[1]) : 1;
        for (int run = seed; run < seed + runs && Check.allRight(); run++) {
            new RandomRunsTest(run).go();
        }
        System.out.println(SEEN);
        for (int error = 0; error <= 5; error++) {
            Check.holds("error " + error + " was seen", SEEN.containsKey("teach " + error));
        }
        Check.end();
    }

    private final Random random;
    private final int run;
    private int made;
    private final DriftOrgan organ = new DriftOrgan();
    private final Reference reference = new Reference();

    private RandomRunsTest(int run) {
        this.run = run;
        this.random = new Random(run);
    }

    private void go() {
        if (random.nextInt(3) == 0) {
            pass();
        }
        teach(ListMaker.tidy(random));
        for (int i = 0; i < CALLS && Check.allRight(); i++) {
            any();
        }
        same("digest()", organ::digest, reference::digest);
        same("trim(0)", () -> organ.trim(0), () -> reference.trim(0));
        for (int i = 0; i < 12 && made < MOST_CALLS && Check.allRight(); i++) {
            teach(random.nextInt(2) == 0 ? ListMaker.untidy(random) : ListMaker.torn(random));
            same("digest()", organ::digest, reference::digest);
        }
        pass();
        same("digest()", organ::digest, reference::digest);
    }

    private void teach(String list) {
        String text = list.length() > 2000 ? list.substring(0, 2000) : list;
        made += text.length() / 20 + 3;
        if (made > MOST_CALLS) {
            return;
        }
        int kept = Check.feed(organ, text);
        reference.tape = text;
        Check.same("bytes fed", kept, text.length());
        long error = same("teach() of " + list, organ::teach, reference::teach);
        SEEN.merge("teach " + error, 1, Integer::sum);
        same("errorAt() of " + list, organ::errorAt, () -> reference.errorAt);
    }

    private void pass() {
        int hours = random.nextInt(5) == 0 ? 1 + random.nextInt(120) : 1 + random.nextInt(5);
        same("pass(" + hours + ")", () -> organ.pass(hours), () -> reference.pass(hours));
    }

    /** A number of a row of that length, and sometimes one just outside of it, or far. */
    private int of(int length) {
        int way = random.nextInt(30);
        return way == 0 ? -1 : way == 1 ? length : way == 2 ? random.nextInt() : random.nextInt(Math.max(1, length));
    }

    private int hours(int most) {
        int way = random.nextInt(30);
        return way == 0 ? 0 : way == 1 ? most + 1 : way == 2 ? random.nextInt() : 1 + random.nextInt(most);
    }

    private void any() {
        int pipe = of(reference.pipes.size());
        int other = of(reference.pipes.size());
        int cave = of(reference.caves.size());
        int chord = of(reference.chords.size());
        int number = of(11) - 1;
        switch (random.nextInt(27)) {
            case 0, 1, 2, 3, 4, 5 -> pass();
            case 6 -> same("count", () -> organ.count(number + 4), () -> reference.count(number + 4));
            case 7 -> same("cave", () -> organ.cave(cave, number), () -> reference.cave(cave, number));
            case 8 -> same("pipe", () -> organ.pipe(pipe, number), () -> reference.pipe(pipe, number));
            case 9 -> same("chord", () -> organ.chord(chord, number), () -> reference.chord(chord, number));
            case 10 -> same("note", () -> organ.note(chord, number), () -> reference.note(chord, number));
            case 11 -> same("apart", () -> organ.apart(pipe, other), () -> reference.apart(pipe, other));
            case 12 -> {
                int hour = of(10000);
                same("height(" + hour + ")", () -> organ.height(hour), () -> reference.height(hour));
            }
            case 13 -> {
                int hour = of(10000);
                same("isSilent(" + hour + ")", () -> organ.isSilent(hour) ? 1 : 0, () -> reference.isSilent(hour) ? 1 : 0);
            }
            case 14, 15 -> {
                int tide = of(10);
                same("setTide(" + tide + ")", () -> organ.setTide(tide), () -> reference.setTide(tide));
            }
            case 16 -> same("clean(" + pipe + ")", () -> organ.clean(pipe), () -> reference.clean(pipe));
            case 17 -> same("cut(" + pipe + ", " + number + ")", () -> organ.cut(pipe, number), () -> reference.cut(pipe, number));
            case 18, 19 -> same("until", () -> organ.until(pipe), () -> reference.until(pipe));
            case 20, 21 -> {
                int hours = hours(120);
                int what = of(4);
                same("foresee(" + hours + ", " + what + ")", () -> organ.foresee(hours, what), () -> reference.foresee(hours, what));
            }
            case 22 -> {
                int hours = hours(72);
                same("advise(" + hours + ")", () -> organ.advise(hours), () -> reference.advise(hours));
            }
            case 23 -> {
                int hours = hours(72);
                same("best(" + hours + ")", () -> organ.best(hours), () -> reference.best(hours));
            }
            case 24 -> Check.same("run " + run + ": mean", organ.mean(), reference.mean());
            case 25 -> same("digest()", organ::digest, reference::digest);
            default -> tapeCalls();
        }
    }

    private void tapeCalls() {
        int a = random.nextInt();
        same("feed", () -> organ.feed(a, 1, a, -1, a), () -> reference.feed(a, 1, a, -1, a));
        if (random.nextBoolean()) {
            int kept = of(reference.tape.length() + 1);
            same("trim", () -> organ.trim(kept), () -> reference.trim(kept));
        }
        if (random.nextBoolean() && !reference.tape.isEmpty()) {
            same("teach()", organ::teach, reference::teach);
            same("errorAt()", organ::errorAt, () -> reference.errorAt);
        }
        if (random.nextInt(3) == 0) {
            same("trim(0)", () -> organ.trim(0), () -> reference.trim(0));
            teach(ListMaker.tidy(random));
        }
    }

    private long same(String call, LongSupplier program, LongSupplier due) {
        made++;
        String got = answer(program);
        String wanted = answer(due);
        Check.holds("run " + run + ": " + call + " answered " + got + ", due is " + wanted, got.equals(wanted));
        return got.startsWith("throws") ? 0 : Long.parseLong(got);
    }

    private static String answer(LongSupplier call) {
        try {
            return "" + call.getAsLong();
        } catch (IndexOutOfBoundsException e) {
            return "throws IndexOutOfBoundsException";
        } catch (IllegalArgumentException e) {
            return "throws IllegalArgumentException";
        } catch (IllegalStateException e) {
            return "throws IllegalStateException";
        }
    }
}
