import java.util.function.Consumer;
import java.util.function.Supplier;

/** The sentences of the promises 1 to 13 that name an edge, each by itself. */
public final class CallEdgesTest {
    private static final int LEAST = Integer.MIN_VALUE;
    private static final int MOST = Integer.MAX_VALUE;
    private static final Class<IndexOutOfBoundsException> INDEX = IndexOutOfBoundsException.class;
    private static final Class<IllegalArgumentException> ARGUMENT = IllegalArgumentException.class;
    private static final int BLANKS = 0x20202020;

    public static void main(String[] args) {
        newObject();
        tape();
        teachAndErrorAt();
        facts();
        chordsAndLengths();
        hours();
        Check.end();
    }

    private static void newObject() {
        Check.sentence("Creates an organ without caves and pipes", CallEdgesTest::withoutCavesAndPipes);
        Check.sentence("in the hour 0", CallEdgesTest::inTheHour0);
    }

    private static void tape() {
        Check.sentence("feed: Appends twenty bytes to the tape", CallEdgesTest::appends);
        Check.sentence("feed: the four bytes of each number, the highest one first", CallEdgesTest::highestFirst);
        Check.sentence("feed: Returns the number of bytes of the tape", CallEdgesTest::bytesOfTheTape);
        Check.sentence("feed: Throws IllegalStateException if there would be more than 2000", CallEdgesTest::fullTape);
        Check.sentence("trim: Shortens the tape to its first bytes", CallEdgesTest::firstBytes);
        Check.sentence("trim: Returns n", CallEdgesTest::returnsN);
        Check.sentence("trim: Throws if n is not 0 to the number of bytes of the tape", CallEdgesTest::wrongTrims);
    }

    private static void teachAndErrorAt() {
        Check.sentence("teach: in the place of all that was told before", CallEdgesTest::inThePlaceOfAll);
        Check.sentence("teach: in the place of all, again and again", CallEdgesTest::againAndAgain);
        Check.sentence("teach: orders and chords told before are heeded no longer", CallEdgesTest::heededNoLonger);
        Check.sentence("teach: what was told before is there no longer", CallEdgesTest::noLongerThere);
        Check.sentence("teach: there are no listeners and complaints then", CallEdgesTest::nobodyBehindTeach);
        Check.sentence("teach: pressure, silt, how loud pipes are and hours begin with 0", CallEdgesTest::beginsWith0);
        Check.sentence("teach: the hour and the tide stay", CallEdgesTest::hourAndTideStay);
        Check.sentence("teach: If it has an error, all stays (but the tape is empty)", CallEdgesTest::staysByAnError);
        Check.sentence("teach: Returns 0, or the error, 1 to 5", CallEdgesTest::eachError);
        Check.sentence("errorAt: the position of the error of the latest teach()", CallEdgesTest::latestError);
        Check.sentence("errorAt: -1 if it had none", CallEdgesTest::noError);
        Check.sentence("errorAt: or there was none", CallEdgesTest::noTeach);
    }

    private static void facts() {
        Check.sentence("count: each of 0 to 13", CallEdgesTest::counts);
        Check.sentence("count: Throws if what is not 0 to 13", () -> refuses("count", DriftOrgan::count, -1, 14));
        Check.sentence("cave: each of 0 to 4 of the first and the last cave", CallEdgesTest::caveFacts);
        Check.sentence("cave: 1 if it would be shut, if the hour went on now, else 0", CallEdgesTest::wouldBeShut);
        Check.sentence("cave: Throws if there is no such cave, or what is not 0 to 4",
                () -> refuses("cave", DriftOrgan::cave, 5, 5));
        Check.sentence("pipe: each of 0 to 6 of the first and the last pipe", CallEdgesTest::pipeFacts);
        Check.sentence("pipe: Throws if there is no such pipe, or what is not 0 to 6",
                () -> refuses("pipe", DriftOrgan::pipe, 12, 7));
    }

    private static void chordsAndLengths() {
        Check.sentence("chord: each of 0 to 3 of the first and the last chord", CallEdgesTest::chordFacts);
        Check.sentence("chord: the greatest length of its pipes less the least one", CallEdgesTest::spans);
        Check.sentence("chord: Throws if there is no such chord, or what is not 0 to 3",
                () -> refuses("chord", DriftOrgan::chord, 6, 4));
        Check.sentence("note: a place, from 0, in the order in which they are told", CallEdgesTest::notes);
        Check.sentence("note: Throws if there is no such chord or place", CallEdgesTest::wrongNotes);
        Check.sentence("apart: taking the lesser one from the greater one, till both are the same", CallEdgesTest::steps);
        Check.sentence("apart: none, if both are the same", CallEdgesTest::noSteps);
        Check.sentence("apart: Throws if there is no such pipe", () -> refuses("apart", DriftOrgan::apart, 12, 12));
    }

    private static void hours() {
        Check.sentence("height: by the tide of now", CallEdgesTest::heightByTide);
        Check.sentence("height: of the hours 0 to 9999", CallEdgesTest::firstAndLastHeight);
        Check.sentence("height: Throws if hour is not 0 to 9999", () -> wrongHours("height", DriftOrgan::height));
        Check.sentence("isSilent: in the hours 0 to 9999", CallEdgesTest::firstAndLastSilence);
        Check.sentence("isSilent: Throws if hour is not 0 to 9999",
                () -> wrongHours("isSilent", (organ, hour) -> organ.isSilent(hour)));
    }

    private interface Call {
        void on(DriftOrgan organ, int argument);
    }

    private interface CallOfTwo {
        void on(DriftOrgan organ, int first, int second);
    }

    private static void refuse(Supplier<DriftOrgan> past, Class<? extends Exception> due, String name, Call call,
            int argument) {
        Twins.refuse(past, due, name + "(" + argument + ")", organ -> call.on(organ, argument));
    }

    private static void refuses(String name, Call call, int below, int above) {
        for (int wrong : new int[] {below, above, LEAST, MOST}) {
            refuse(Twins::lively, INDEX, name, call, wrong);
        }
    }

    /** Both arguments from 0 to less than so many. */
    private static void refuses(String name, CallOfTwo call, int firsts, int seconds) {
        int[][] wrong = {{-1, 0}, {firsts, 0}, {0, -1}, {0, seconds}, {firsts - 1, -1}, {firsts - 1, seconds},
            {-1, seconds - 1}, {firsts, seconds - 1}, {-1, -1}, {firsts, seconds}, {LEAST, 0}, {MOST, 0}, {0, LEAST},
            {0, MOST}, {LEAST, MOST}, {MOST, LEAST}};
        for (int[] row : wrong) {
            Twins.refuse(Twins::lively, INDEX, name + "(" + row[0] + ", " + row[1] + ")",
                    organ -> call.on(organ, row[0], row[1]));
        }
        Twins.refuse(DriftOrgan::new, INDEX, "new: " + name + "(0, 0)", organ -> call.on(organ, 0, 0));
        DriftOrgan lively = Twins.lively();
        for (int first : new int[] {0, firsts - 1}) {
            for (int second : new int[] {0, seconds - 1}) {
                answers(name + "(" + first + ", " + second + ")", lively, organ -> call.on(organ, first, second));
            }
        }
    }

    private static void answers(String told, DriftOrgan organ, Consumer<DriftOrgan> call) {
        try {
            call.accept(organ);
            Check.holds(told, true);
        } catch (RuntimeException e) {
            Check.fail(told + " threw " + e);
        }
    }

    private static void wrongHours(String name, Call call) {
        for (int wrong : new int[] {-1, 10000, LEAST, MOST}) {
            refuse(Twins::lively, ARGUMENT, name, call, wrong);
            refuse(DriftOrgan::new, ARGUMENT, name, call, wrong);
        }
        for (int right : new int[] {0, 9999}) {
            answers(name + "(" + right + ")", Twins.lively(), organ -> call.on(organ, right));
        }
    }

    private static void withoutCavesAndPipes() {
        DriftOrgan organ = new DriftOrgan();
        int[] due = {0, 4, 0, 0, 0, 0, 0, 0, 0, 0, 0, 0, 0, 0};
        for (int what = 0; what < 14; what++) {
            Check.same("count(" + what + ")", organ.count(what), due[what]);
        }
        Twins.refuse(DriftOrgan::new, INDEX, "cave(0, 0)", o -> o.cave(0, 0));
        Twins.refuse(DriftOrgan::new, INDEX, "pipe(0, 0)", o -> o.pipe(0, 0));
        Twins.refuse(DriftOrgan::new, INDEX, "chord(0, 0)", o -> o.chord(0, 0));
        Twins.refuse(DriftOrgan::new, INDEX, "note(0, 0)", o -> o.note(0, 0));
        Twins.refuse(DriftOrgan::new, INDEX, "apart(0, 0)", o -> o.apart(0, 0));
        Twins.refuse(DriftOrgan::new, INDEX, "clean(0)", o -> o.clean(0));
        Twins.refuse(DriftOrgan::new, INDEX, "cut(0, 1)", o -> o.cut(0, 1));
        Twins.refuse(DriftOrgan::new, INDEX, "until(0)", o -> o.until(0));
        Check.same("foresee of nothing", organ.foresee(120, 2), 0);
        Check.same("all is as if nothing had been told", organ.digest(), Check.organ("").digest());
    }

    private static void inTheHour0() {
        DriftOrgan organ = new DriftOrgan();
        Check.same("hour", organ.count(0), 0);
        Check.same("listeners of nothing", organ.pass(1), 0);
        Check.same("hour behind an hour", organ.count(0), 1);
        Check.same("another new object's hour", new DriftOrgan().count(0), 0);
    }

    private static void appends() {
        DriftOrgan organ = new DriftOrgan();
        Check.feed(organ, "cave a mouth 3");
        Check.same("bytes", organ.count(13), 14);
        Check.feed(organ, " deep 4;");
        Check.same("bytes behind both", organ.count(13), 22);
        Check.same("teach of both", organ.teach(), 0);
        Check.same("mouth", organ.cave(0, 0), 3);
        Check.same("deep", organ.cave(0, 1), 4);
    }

    private static void highestFirst() {
        for (int place = 0; place < 20; place++) {
            for (int sign : new int[] {0, 1, 127, 128, 255}) {
                int[] words = {BLANKS, BLANKS, BLANKS, BLANKS, BLANKS};
                int shift = 24 - place % 4 * 8;
                words[place / 4] = words[place / 4] & ~(255 << shift) | sign << shift;
                DriftOrgan organ = new DriftOrgan();
                organ.feed(words[0], words[1], words[2], words[3], words[4]);
                Check.same("teach of the byte " + sign, organ.teach(), 1);
                Check.same("place of the byte " + sign, organ.errorAt(), place);
            }
        }
        DriftOrgan organ = new DriftOrgan();
        organ.feed(0x63617665, 0x2061206d, 0x6f757468, 0x20392064, 0x65657020);
        organ.feed(0x373b2020, BLANKS, 0x0a202020, BLANKS, BLANKS);
        Check.same("teach of cave a mouth 9 deep 7;", organ.teach(), 0);
        Check.same("mouth", organ.cave(0, 0), 9);
        Check.same("deep", organ.cave(0, 1), 7);
    }

    private static void bytesOfTheTape() {
        DriftOrgan organ = new DriftOrgan();
        for (int bytes = 20; bytes <= 2000; bytes += 20) {
            Check.same("feed", organ.feed(-1, 0, 1, LEAST, MOST), bytes);
            Check.same("bytes", organ.count(13), bytes);
        }
        organ.trim(7);
        Check.same("feed behind 7", organ.feed(0, 0, 0, 0, 0), 27);
    }

    /** A list and blanks, so many bytes, on the tape of an organ that was told another list before. */
    private static DriftOrgan withBytes(int bytes) {
        DriftOrgan organ = Check.organ(FactsTest.SAMPLE);
        organ.pass(9);
        String list = "cave x mouth 3 deep 2; pipe y in x length 7 reed;";
        Check.same("bytes", Check.feed(organ, list + " ".repeat(bytes - list.length())), bytes);
        return organ;
    }

    private static void fullTape() {
        DriftOrgan fits = withBytes(1980);
        Check.same("feed behind 1980", fits.feed(BLANKS, BLANKS, BLANKS, BLANKS, BLANKS), 2000);
        Check.same("teach of 2000 bytes", fits.teach(), 0);
        Check.same("pipes of it", fits.count(3), 1);
        DriftOrgan read = withBytes(1980);
        read.feed(BLANKS, BLANKS, BLANKS, BLANKS, BLANKS + 1);
        Check.same("teach of a wrong last byte", read.teach(), 1);
        Check.same("the last byte", read.errorAt(), 1999);
        for (int bytes : new int[] {1981, 1982, 1999, 2000}) {
            Twins.refuse(() -> withBytes(bytes), IllegalStateException.class, "feed behind " + bytes,
                    organ -> organ.feed(0, 0, 0, 0, 0));
            DriftOrgan full = withBytes(bytes);
            Check.refuses(full, "feed behind " + bytes, IllegalStateException.class, () -> full.feed(0, 0, 0, 0, 0));
            Check.same("bytes", full.count(13), bytes);
        }
    }

    private static void firstBytes() {
        String list = "cave a mouth 3 deep 2; cave b mouth 4 deep 5; cave a mouth 1 deep 1;";
        int[][] due = {{0, 0, 0}, {22, 0, 1}, {23, 0, 1}, {45, 0, 2}, {46, 0, 2}, {21, 1, 0}, {44, 1, 0}, {67, 1, 0},
            {68, 2, 0}};
        for (int[] row : due) {
            DriftOrgan organ = new DriftOrgan();
            Check.feed(organ, list);
            organ.trim(row[0]);
            Check.same("bytes", organ.count(13), row[0]);
            Check.same("teach of the first " + row[0], organ.teach(), row[1]);
            Check.same("caves of the first " + row[0], organ.count(2), row[2]);
        }
        DriftOrgan organ = new DriftOrgan();
        Check.feed(organ, list);
        organ.trim(13);
        Check.feed(organ, "9 deep 8;");
        Check.same("teach of what comes behind", organ.teach(), 0);
        Check.same("caves", organ.count(2), 1);
        Check.same("mouth", organ.cave(0, 0), 9);
    }

    private static void returnsN() {
        DriftOrgan organ = new DriftOrgan();
        Check.same("trim(0) of none", organ.trim(0), 0);
        organ.feed(0, 0, 0, 0, 0);
        for (int n : new int[] {20, 19, 19, 1, 1, 0, 0}) {
            Check.same("trim(" + n + ")", organ.trim(n), n);
            Check.same("bytes", organ.count(13), n);
        }
    }

    private static void wrongTrims() {
        int bytes = Twins.lively().count(13);
        Check.same("trim to all", Twins.lively().trim(bytes), bytes);
        Check.same("trim to none", Twins.lively().trim(0), 0);
        for (int wrong : new int[] {-1, bytes + 1, 2000, 2001, LEAST, MOST}) {
            refuse(Twins::lively, ARGUMENT, "trim", DriftOrgan::trim, wrong);
        }
        for (int wrong : new int[] {-1, 1, LEAST, MOST}) {
            refuse(DriftOrgan::new, ARGUMENT, "trim", DriftOrgan::trim, wrong);
        }
        for (int wrong : new int[] {-1, 2001}) {
            refuse(() -> withBytes(2000), ARGUMENT, "trim", DriftOrgan::trim, wrong);
        }
    }

    /** An organ that just was taught another list is like a new one with the hour and the tide of it. */
    private static void taughtLikeNew(String list) {
        DriftOrgan taught = Twins.lively();
        taught.trim(0);
        Check.same("teach", Check.teach(taught, list), 0);
        DriftOrgan fresh = new DriftOrgan();
        fresh.pass(taught.count(0));
        fresh.setTide(taught.count(1));
        Check.same("teach of a new one", Check.teach(fresh, list), 0);
        Twins.same("what was told before " + list, fresh, taught);
    }

    private static void inThePlaceOfAll() {
        taughtLikeNew("");
        taughtLikeNew("cave a mouth 1 deep 1;");
        taughtLikeNew(FactsTest.SAMPLE);
        taughtLikeNew(Lists.FULLEST);
        taughtLikeNew(Lists.pipes(12) + Lists.chords(6) + "clean p0; shut c0 when sounds p11;");
        DriftOrgan organ = Twins.lively();
        organ.trim(0);
        Check.same("teach of nothing", organ.teach(), 0);
        for (int what = 2; what <= 13; what++) {
            Check.same("count(" + what + ") behind it", organ.count(what), 0);
        }
        Check.same("height behind it", organ.height(99), 14);
        Check.holds("no silence behind it", !organ.isSilent(0));
    }

    private static final String SMALL = "cave x mouth 1 deep 1; pipe y in x length 2; pipe z in x length 2; chord w of y z; ";

    private static void againAndAgain() {
        String[] lists = {"", SMALL, FactsTest.SAMPLE, Lists.FULLEST, SMALL + "clean y; shut x when hour = 1;"};
        for (String list : lists) {
            DriftOrgan organ = new DriftOrgan();
            for (int time = 0; time < 3; time++) {
                Check.same("teach of the fullest list", Check.teach(organ, Lists.FULLEST), 0);
                organ.pass(7);
            }
            Check.same("teach of " + list, Check.teach(organ, list), 0);
            DriftOrgan fresh = new DriftOrgan();
            fresh.pass(21);
            Check.same("teach of a new one", Check.teach(fresh, list), 0);
            Twins.same("the fullest list thrice before " + list, fresh, organ);
        }
        // All the steps of an order's longest test, each time anew.
        String longest = "cave a mouth 1 deep 1; shut a when 1" + "+1".repeat(193) + "=194";
        DriftOrgan organ = new DriftOrgan();
        for (int time = 0; time < 12; time++) {
            int one = 193 + time % 3;
            Check.same("teach", Check.teach(organ, longest.replace("194", "" + one) + ";"), 0);
            Check.same("shut by 194 = " + one, organ.cave(0, 4), one == 194 ? 1 : 0);
        }
    }

    private static void heededNoLonger() {
        String pipes = "cave a mouth 1 deep 8; pipe p in a length 40; pipe q in a length 1; pipe r in a length 1; ";
        StringBuilder chords = new StringBuilder();
        for (int chord = 0; chord < 6; chord++) {
            chords.append("chord c").append(chord).append(" of q r; ");
        }
        String[] before = {"shut a when 1 = 1; clean p; ".repeat(8), "clean p; shut a when 1 = 1; ".repeat(8),
            chords.toString(), "silence from 0 to 0; ".repeat(3), "swell high 30 every 1 from 0; ".repeat(5)};
        String[] lists = {pipes, pipes + "clean q; ", pipes + "chord c of r q; ", pipes + "silence from 1 to 2; ",
            pipes + "swell high 1 every 7 from 0; "};
        for (String told : before) {
            for (String list : lists) {
                DriftOrgan organ = new DriftOrgan();
                for (int time = 0; time < 3; time++) {
                    Check.same("teach of " + told, Check.teach(organ, pipes + told), 0);
                }
                organ.pass(3);
                Check.same("teach of " + list, Check.teach(organ, list), 0);
                DriftOrgan fresh = new DriftOrgan();
                fresh.pass(3);
                Check.same("teach of a new one", Check.teach(fresh, list), 0);
                Twins.same(told + "before " + list, fresh, organ);
            }
        }
    }

    /** An organ with little on it, that was told the fullest list three times before. */
    private static DriftOrgan smallBehindFullest() {
        DriftOrgan organ = new DriftOrgan();
        for (int time = 0; time < 3; time++) {
            Check.same("teach of the fullest list", Check.teach(organ, Lists.FULLEST), 0);
        }
        Check.same("teach of little", Check.teach(organ, SMALL), 0);
        return organ;
    }

    private static void noLongerThere() {
        Supplier<DriftOrgan> past = CallEdgesTest::smallBehindFullest;
        Twins.refuse(past, INDEX, "cave(1, 0)", organ -> organ.cave(1, 0));
        Twins.refuse(past, INDEX, "pipe(2, 0)", organ -> organ.pipe(2, 0));
        Twins.refuse(past, INDEX, "chord(1, 0)", organ -> organ.chord(1, 0));
        Twins.refuse(past, INDEX, "note(1, 0)", organ -> organ.note(1, 0));
        Twins.refuse(past, INDEX, "note(0, 2)", organ -> organ.note(0, 2));
        Twins.refuse(past, INDEX, "apart(0, 2)", organ -> organ.apart(0, 2));
        Twins.refuse(past, INDEX, "clean(2)", organ -> organ.clean(2));
        Twins.refuse(past, INDEX, "cut(2, 1)", organ -> organ.cut(2, 1));
        Twins.refuse(past, INDEX, "until(2)", organ -> organ.until(2));
    }

    private static void nobodyBehindTeach() {
        DriftOrgan organ = Twins.lively();
        Check.holds("there are listeners", organ.count(10) > 0);
        Check.holds("there are complaints", organ.count(11) > 0);
        organ.trim(0);
        Check.same("teach", Check.teach(organ, Lists.FULLEST), 0);
        Check.same("listeners", organ.count(10), 0);
        Check.same("complaints", organ.count(11), 0);
    }

    private static void beginsWith0() {
        DriftOrgan organ = Twins.lively();
        int pressure = 0;
        int[] sums = new int[7];
        for (int pipe = 0; pipe < 12; pipe++) {
            for (int what = 3; what <= 6; what++) {
                sums[what] += organ.pipe(pipe, what);
            }
        }
        for (int cave = 0; cave < 5; cave++) {
            pressure += organ.cave(cave, 2);
        }
        Check.holds("there is pressure", pressure > 0);
        Check.holds("there are silt, loud pipes and hours", sums[3] > 0 && sums[5] > 0 && sums[6] > 0);
        organ.trim(0);
        Check.same("teach", Check.teach(organ, Lists.FULLEST), 0);
        for (int cave = 0; cave < 5; cave++) {
            Check.same("pressure", organ.cave(cave, 2), 0);
        }
        for (int pipe = 0; pipe < 12; pipe++) {
            Check.same("silt", organ.pipe(pipe, 3), 0);
            Check.same("loud", organ.pipe(pipe, 5), 0);
            Check.same("hours of a pipe", organ.pipe(pipe, 6), 0);
        }
        for (int chord = 0; chord < 6; chord++) {
            Check.same("a chord sounds", organ.chord(chord, 1), 0);
            Check.same("hours of a chord", organ.chord(chord, 3), 0);
        }
        Check.same("length told anew", organ.pipe(2, 1), 17);
    }

    private static void hourAndTideStay() {
        DriftOrgan organ = Twins.lively();
        Check.same("hour ahead", organ.count(0), 39);
        Check.same("tide ahead", organ.count(1), 7);
        Check.same("teach", organ.teach(), 0);
        Check.same("hour", organ.count(0), 39);
        Check.same("tide", organ.count(1), 7);
        organ.setTide(0);
        Check.same("teach of an error", Check.teach(organ, ";"), 1);
        Check.same("hour behind it", organ.count(0), 39);
        Check.same("tide behind it", organ.count(1), 0);
    }

    private static final String[] WRONG = {"cave x mouth 3 deep 2; pipe y in x length 8; silence from 0 to 0; chord z of y y^",
        "cave x mouth 3 deep 2; cave ^x mouth 3 deep 2;", "cave x mouth 3 deep 2; clean ^x;",
        "silence from 1 to 1; silence from 1 to 1; silence from 1 to 1; ^silence from 1 to 1;",
        "cave x mouth 3 deep 2; pipe y in x length 8; silence from 0 to 0; swell high 30 every 1 from 0; chord z of y ^y;"};

    private static void staysByAnError() {
        for (int i = 0; i < WRONG.length; i++) {
            DriftOrgan calm = Twins.lively();
            calm.trim(0);
            DriftOrgan taught = Twins.lively();
            taught.trim(0);
            Check.same("teach of " + WRONG[i], Check.teach(taught, WRONG[i].replace("^", "")), i + 1);
            Check.same("bytes behind it", taught.count(13), 0);
            Twins.same("teach of " + WRONG[i], calm, taught);
        }
        // An error of the full list told once more, up to each of its lines.
        for (int end = Lists.FULLEST.indexOf(';'); end > 0; end = Lists.FULLEST.indexOf(';', end + 1)) {
            DriftOrgan organ = Check.organ(FactsTest.SAMPLE);
            organ.pass(9);
            long before = organ.digest();
            Check.same("teach of lines and an error", Check.teach(organ, Lists.FULLEST.substring(0, end) + ";;"), 1);
            Check.same("errorAt", organ.errorAt(), end + 1);
            Check.same("digest behind it", organ.digest(), before);
        }
    }

    private static void eachError() {
        Check.fits("cave x mouth 3 deep 2;");
        for (int i = 0; i < WRONG.length; i++) {
            Check.error(i + 1, WRONG[i]);
        }
    }

    private static void latestError() {
        DriftOrgan organ = new DriftOrgan();
        Check.teach(organ, "!");
        Check.same("at the first byte", organ.errorAt(), 0);
        Check.teach(organ, "cave a mouth 10 deep 1;");
        Check.same("at a number", organ.errorAt(), 13);
        organ.feed(0, 0, 0, 0, 0);
        organ.trim(3);
        organ.pass(2);
        organ.setTide(1);
        Check.same("still there", organ.errorAt(), 13);
        organ.teach();
        Check.same("of the latest one", organ.errorAt(), 0);
        Check.teach(organ, "cave" + "\n".repeat(1996));
        Check.same("at the end of 2000 bytes", organ.errorAt(), 2000);
        Check.teach(organ, "cave" + "\n".repeat(1995) + "!");
        Check.same("at the last byte of 2000", organ.errorAt(), 1999);
    }

    private static void noError() {
        DriftOrgan organ = new DriftOrgan();
        organ.teach();
        Check.same("behind teach of nothing", organ.errorAt(), -1);
        Check.teach(organ, "!");
        Check.teach(organ, "cave a mouth 1 deep 1;");
        Check.same("behind teach of a list, behind an error", organ.errorAt(), -1);
        Check.teach(organ, "cave a mouth 1 deep 1;;");
        organ.teach();
        Check.same("behind teach of nothing, behind an error", organ.errorAt(), -1);
    }

    private static void noTeach() {
        DriftOrgan organ = new DriftOrgan();
        Check.same("of a new object", organ.errorAt(), -1);
        organ.feed(0, 0, 0, 0, 0);
        organ.pass(1);
        Check.same("with a tape that is no list", organ.errorAt(), -1);
        organ.trim(0);
        Check.same("behind trim", organ.errorAt(), -1);
    }

    private static void counts() {
        DriftOrgan organ = Twins.lively();
        int[] told = {39, 7, 5, 12, 6, 5, 3, 16};
        for (int what = 0; what < told.length; what++) {
            Check.same("count(" + what + ")", organ.count(what), told[what]);
        }
        int sounding = 0;
        int silt = 0;
        for (int pipe = 0; pipe < 12; pipe++) {
            sounding += organ.pipe(pipe, 5) >= 1 ? 1 : 0;
            silt += organ.pipe(pipe, 3);
        }
        int chords = 0;
        for (int chord = 0; chord < 6; chord++) {
            chords += organ.chord(chord, 1);
        }
        Check.same("count(8)", organ.count(8), sounding);
        Check.same("count(9)", organ.count(9), chords);
        Check.same("count(12)", organ.count(12), silt);
        Check.same("count(13)", organ.count(13), 78);
        int listeners = organ.count(10) + organ.foresee(30, 0);
        int complaints = organ.count(11) + organ.foresee(30, 1);
        organ.pass(30);
        Check.same("count(10)", organ.count(10), listeners);
        Check.same("count(11)", organ.count(11), complaints);
        Twins.ask(Twins::lively, "count", o -> {
            for (int what = 0; what < 14; what++) {
                o.count(what);
            }
        });
    }

    private static void facts(String name, int... gotThenDue) {
        int facts = gotThenDue.length / 2;
        for (int what = 0; what < facts; what++) {
            Check.same(name + ", " + what, gotThenDue[what], gotThenDue[facts + what]);
        }
    }

    private static void caveFacts() {
        DriftOrgan organ = Check.organ(Lists.FULLEST);
        facts("first cave", organ.cave(0, 0), organ.cave(0, 1), organ.cave(0, 2), organ.cave(0, 3), organ.cave(0, 4),
                9, 1, 0, 2, 1);
        facts("last cave", organ.cave(4, 0), organ.cave(4, 1), organ.cave(4, 2), organ.cave(4, 3), organ.cave(4, 4),
                5, 4, 0, 3, 1);
        organ.pass(4);
        // The hour 3 is the first one without silence, and no swell is due in it.
        facts("first cave", organ.cave(0, 2), organ.cave(0, 3), organ.cave(0, 4), 72, 2, 0);
        facts("last cave", organ.cave(4, 2), organ.cave(4, 3), organ.cave(4, 4), 10, 3, 0);
        DriftOrgan none = Check.organ(Lists.caves(5));
        Check.same("pipes of a cave without any", none.cave(4, 3), 0);
        Check.same("pipes of a cave with all", Check.organ(Lists.pipes(12)).cave(0, 3), 12);
    }

    private static void wouldBeShut() {
        DriftOrgan organ = Check.organ(Lists.caves(5) + "silence from 3 to 4; shut c1 when hour = 1; "
                + "shut c4 when pressure c0 >= 12; shut c2 when pressure c3 = 8;");
        String[] due = {"00000", "01100", "00001", "11111", "00000"};
        for (int hour = 0; hour < due.length; hour++) {
            for (int cave = 0; cave < 5; cave++) {
                Check.same("cave(" + cave + ", 4) in the hour " + hour, organ.cave(cave, 4),
                        due[hour].charAt(cave) - '0');
            }
            organ.pass(1);
        }
        // By the tide and the silt as they are now, not as they were.
        DriftOrgan now = Check.organ("cave a mouth 1 deep 8; pipe p in a length 40; shut a when tide = 9 or silt p = 0 "
                + "and hour > 0;");
        Check.same("at first", now.cave(0, 4), 0);
        now.setTide(9);
        Check.same("at the tide 9", now.cave(0, 4), 1);
        now.setTide(8);
        Check.same("at the tide 8", now.cave(0, 4), 0);
        now.pass(2);
        Check.same("with silt", now.cave(0, 4), 0);
        now.clean(0);
        Check.same("without silt", now.cave(0, 4), 1);
        Twins.ask(Twins::lively, "cave(_, 4)", o -> {
            for (int cave = 0; cave < 5; cave++) {
                o.cave(cave, 4);
            }
        });
    }

    private static void pipeFacts() {
        StringBuilder list = new StringBuilder("cave a mouth 1 deep 8; cave b mouth 1 deep 1; pipe p in a length 40; ");
        for (int pipe = 1; pipe <= 10; pipe++) {
            list.append("pipe p").append(pipe).append(" in b length 2; ");
        }
        DriftOrgan organ = Check.organ(list + "pipe x in a length 39 reed;");
        organ.pass(2);
        int[] first = {0, 40, 0, 2, 22, 0, 0};
        int[] second = {1, 2, 0, 0, 1, 12, 2};
        int[] last = {0, 39, 1, 4, 27, 0, 0};
        for (int what = 0; what <= 6; what++) {
            Check.same("pipe(0, " + what + ")", organ.pipe(0, what), first[what]);
            Check.same("pipe(10, " + what + ")", organ.pipe(10, what), second[what]);
            Check.same("pipe(11, " + what + ")", organ.pipe(11, what), last[what]);
        }
    }

    private static void chordFacts() {
        DriftOrgan organ = Check.organ(Lists.pipes(6) + Lists.chord("a", 2) + Lists.chords(4) + Lists.chord("z", 6));
        organ.cut(5, 1);
        int[][] due = {{2, 0, 0, 0}, {6, 0, 1, 0}};
        for (int what = 0; what <= 3; what++) {
            Check.same("chord(0, " + what + ")", organ.chord(0, what), due[0][what]);
            Check.same("chord(5, " + what + ")", organ.chord(5, what), due[1][what]);
        }
        organ.pass(30);
        Check.same("the first sounds", organ.chord(0, 1), 1);
        Check.same("the last sounds", organ.chord(5, 1), 1);
        Check.same("hours of the first", organ.chord(0, 3), 30);
        Check.same("hours of the last", organ.chord(5, 3), 30);
    }

    private static void span(String lengths, int due) {
        StringBuilder list = new StringBuilder("cave a mouth 1 deep 1; pipe m in a length 1; pipe n in a length 40; ");
        StringBuilder chord = new StringBuilder("chord c of");
        String[] each = lengths.split(" ");
        for (int i = 0; i < each.length; i++) {
            list.append("pipe p").append(i).append(" in a length ").append(each[i]).append("; ");
            chord.append(" p").append(i);
        }
        Check.same("chord(0, 2) of " + lengths, Check.organ(list + "" + chord + ";").chord(0, 2), due);
    }

    private static void spans() {
        span("1 1", 0);
        span("40 40", 0);
        span("1 40", 39);
        span("40 1", 39);
        span("1 2", 1);
        span("40 39", 1);
        span("7 7 7 7 7 7", 0);
        span("7 7 7 7 7 8", 1);
        span("8 7 7 7 7 7", 1);
        span("5 9 2 7 30 6", 28);
        span("30 9 5 7 5 29", 25);
    }

    private static void notes() {
        DriftOrgan organ = Check.organ(Lists.pipes(12) + "chord a of p11 p0; chord b of p3 p9 p1 p11 p0 p2; chord c of p5 p4 p6;");
        int[][] due = {{11, 0}, {3, 9, 1, 11, 0, 2}, {5, 4, 6}};
        for (int chord = 0; chord < due.length; chord++) {
            for (int place = 0; place < due[chord].length; place++) {
                Check.same("note(" + chord + ", " + place + ")", organ.note(chord, place), due[chord][place]);
            }
            int behind = due[chord].length;
            int of = chord;
            Check.refuses(organ, "note(" + chord + ", " + behind + ")", INDEX, () -> organ.note(of, behind));
            Check.refuses(organ, "note(" + chord + ", -1)", INDEX, () -> organ.note(of, -1));
        }
    }

    private static void wrongNotes() {
        // The first chord of the fullest list has six pipes, the second two, the last five.
        int[][] wrong = {{-1, 0}, {6, 0}, {0, -1}, {0, 6}, {1, 2}, {1, 5}, {5, 5}, {5, -1}, {6, 5}, {-1, -1}, {-1, 6},
            {LEAST, 0}, {MOST, 0}, {0, LEAST}, {0, MOST}, {0x2aaaaaab, 0}, {0, 0x2aaaaaab}, {1, -6}};
        for (int[] row : wrong) {
            Twins.refuse(Twins::lively, INDEX, "note(" + row[0] + ", " + row[1] + ")", o -> o.note(row[0], row[1]));
        }
        DriftOrgan organ = Twins.lively();
        Check.same("note(0, 5)", organ.note(0, 5), 5);
        Check.same("note(1, 1)", organ.note(1, 1), 10);
        Check.same("note(5, 4)", organ.note(5, 4), 10);
    }

    private static int dueSteps(int a, int b) {
        return a == b ? 0 : 1 + dueSteps(Math.min(a, b), Math.max(a, b) - Math.min(a, b));
    }

    private static void steps() {
        Check.same("of 1 and 40", dueSteps(1, 40), 39);
        for (int a = 1; a <= 40; a++) {
            for (int from = 1; from <= 40; from += 10) {
                StringBuilder list = new StringBuilder("cave c mouth 1 deep 1; pipe a in c length " + a + "; ");
                for (int b = from; b < from + 10; b++) {
                    list.append("pipe b").append(b).append(" in c length ").append(b).append("; ");
                }
                DriftOrgan organ = Check.organ(list.toString());
                for (int b = from; b < from + 10; b++) {
                    Check.same("apart of " + a + " and " + b, organ.apart(0, b - from + 1), dueSteps(a, b));
                    Check.same("apart of " + b + " and " + a, organ.apart(b - from + 1, 0), dueSteps(a, b));
                }
            }
        }
    }

    private static void noSteps() {
        DriftOrgan organ = Check.organ(Lists.pipes(12));
        for (int pipe = 0; pipe < 12; pipe++) {
            Check.same("apart of itself", organ.apart(pipe, pipe), 0);
            Check.same("apart of one as long", organ.apart(pipe, 11 - pipe), 0);
        }
        organ.cut(0, 1);
        Check.same("apart of 1 and 2", organ.apart(0, 1), 1);
    }

    private static void heightByTide() {
        DriftOrgan organ = Check.organ("swell high 5 every 24 from 0;");
        for (int tide = 0; tide <= 9; tide++) {
            organ.setTide(tide);
            Check.same("height(0)", organ.height(0), 5 + 2 * tide);
            Check.same("height(1)", organ.height(1), 2 * tide);
            Check.same("height(9999)", organ.height(9999), 2 * tide);
        }
    }

    private static void firstAndLastHeight() {
        DriftOrgan organ = Check.organ("swell high 5 every 24 from 0; swell high 3 every 9 from 0; swell high 30 every 24 from 15;");
        // 9999 is 9 * 1111, and 15 more than 24 * 416.
        Check.same("height(0)", organ.height(0), 16);
        Check.same("height(9999)", organ.height(9999), 41);
        Check.same("height(9998)", organ.height(9998), 8);
        organ.pass(120);
        Check.same("height(0) later", organ.height(0), 16);
    }

    private static void firstAndLastSilence() {
        DriftOrgan organ = Check.organ("silence from 0 to 1; silence from 15 to 16;");
        Check.holds("isSilent(0)", organ.isSilent(0));
        Check.holds("not isSilent(1)", !organ.isSilent(1));
        Check.holds("isSilent(9999)", organ.isSilent(9999));
        Check.holds("not isSilent(9998)", !organ.isSilent(9998));
        organ.pass(120);
        Check.holds("isSilent(0) later", organ.isSilent(0));
        Check.holds("not silent without lines", !new DriftOrgan().isSilent(9999));
    }
}
