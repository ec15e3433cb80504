import java.math.BigInteger;
import java.util.ArrayList;
import java.util.List;

/** The sentences of the promises 14 to 23 that name an edge, each by itself. */
public final class ForesightEdgesTest {
    private static final int LEAST = Integer.MIN_VALUE;
    private static final int MOST = Integer.MAX_VALUE;
    private static final Class<IndexOutOfBoundsException> INDEX = IndexOutOfBoundsException.class;
    private static final Class<IllegalArgumentException> ARGUMENT = IllegalArgumentException.class;
    // In the first hour the pressure is the tide.
    private static final String CAVE = "cave a mouth 1 deep 2; ";
    // At the tide 0 nothing sounds ahead of the hour 237, the 21 of its day, when the swell meets an open cave.
    private static final String HOUR_237 = CAVE + "pipe p in a length 2; pipe q in a length 2; chord c of p q; "
            + "swell high 30 every 23 from 99; shut a when not hour = 21; ";
    // At the tide 0 nothing sounds ahead of the hour 168, the 0 of its day, when the swell meets an open cave.
    private static final String HOUR_168 = CAVE + "pipe p in a length 2; pipe q in a length 2; chord c of p q; "
            + "swell high 30 every 23 from 99; shut a when not hour = 0; ";

    public static void main(String[] args) {
        byHand();
        passing();
        untilAndForesee();
        adviseAndBest();
        meanAndDigest();
        Check.end();
    }

    private static void byHand() {
        Check.sentence("setTide: the tide from now on, Returns the one before", ForesightEdgesTest::tides);
        Check.sentence("setTide: Throws if tide is not 0 to 9", ForesightEdgesTest::wrongTides);
        Check.sentence("clean: it is as loud as it was till the next hour", ForesightEdgesTest::cleanedTillTheNextHour);
        Check.sentence("clean: Returns its silt before", ForesightEdgesTest::siltBefore);
        Check.sentence("clean: Throws if there is no such pipe", ForesightEdgesTest::wrongCleans);
        Check.sentence("cut: it is as loud as it was till the next hour", ForesightEdgesTest::cutTillTheNextHour);
        Check.sentence("cut: Returns its length then", ForesightEdgesTest::lengthThen);
        Check.sentence("cut: Throws if there is no such pipe", ForesightEdgesTest::cutsOfNoPipe);
        Check.sentence("cut: Throws if by is less than 1", ForesightEdgesTest::cutsOfNothing);
        Check.sentence("cut: or no length of 1 or more would be left", ForesightEdgesTest::cutsOfAll);
        Check.sentence("cut: If several exceptions apply, the one that is named first", ForesightEdgesTest::cutsOfNoPipeAndNothing);
    }

    private static void passing() {
        Check.sentence("pass: Returns how many listeners come", ForesightEdgesTest::listenersThatCome);
        Check.sentence("pass: 1 to 120 hours", ForesightEdgesTest::fewestAndMostHours);
        Check.sentence("pass: Throws if hours is not 1 to 120", () -> wrongHours("pass", DriftOrgan::pass, 120));
    }

    private static void untilAndForesee() {
        Check.sentence("until: 0 if now", ForesightEdgesTest::soundsNow);
        Check.sentence("until: at most 150; -1 if not by then", ForesightEdgesTest::soundsBehind150Hours);
        Check.sentence("until: (nothing is changed)", ForesightEdgesTest::untilChangesNothing);
        Check.sentence("until: if nothing is done by hand", ForesightEdgesTest::untilByWhatIsNow);
        Check.sentence("until: Throws if there is no such pipe", ForesightEdgesTest::wrongUntils);
        Check.sentence("foresee: hours, 1 to 120", ForesightEdgesTest::foreseesFewestAndMost);
        Check.sentence("foresee: each of 0 to 3", ForesightEdgesTest::foreseesAll);
        Check.sentence("foresee: (nothing is changed)", ForesightEdgesTest::foreseeChangesNothing);
        Check.sentence("foresee: Throws if hours is not 1 to 120",
                () -> wrongHours("foresee(_, 0)", (organ, hours) -> organ.foresee(hours, 0), 120));
        Check.sentence("foresee: Throws if what is not 0 to 3", ForesightEdgesTest::foreseesNothingSuch);
        Check.sentence("foresee: If several exceptions apply, the one that is named first", ForesightEdgesTest::foreseesBothWrong);
    }

    private static void adviseAndBest() {
        Check.sentence("advise: listeners less twice the complaints are the most", ForesightEdgesTest::listenersAndComplaints);
        Check.sentence("advise: Returns this, 0 to 9", ForesightEdgesTest::advisesEachTide);
        Check.sentence("advise: of several the least", ForesightEdgesTest::advisesTheLeast);
        Check.sentence("advise: (nothing is changed)", ForesightEdgesTest::adviseChangesNothing);
        Check.sentence("advise: within 1 to 72 hours", ForesightEdgesTest::advisesFewestAndMost);
        Check.sentence("advise: Throws if hours is not 1 to 72", () -> wrongHours("advise", DriftOrgan::advise, 72));
        Check.sentence("best: of several the one with the smallest number", ForesightEdgesTest::bestOfSeveral);
        Check.sentence("best: -1 if there are no pipes", ForesightEdgesTest::bestOfNone);
        Check.sentence("best: or by none more come than without", ForesightEdgesTest::bestOfNothingMore);
        Check.sentence("best: the most listeners, the first and the last pipe", ForesightEdgesTest::bestOfAll);
        Check.sentence("best: (nothing is changed)", ForesightEdgesTest::bestChangesNothing);
        Check.sentence("best: within 1 to 72 hours", ForesightEdgesTest::bestWithinFewestAndMost);
        Check.sentence("best: Throws if hours is not 1 to 72", () -> wrongHours("best", DriftOrgan::best, 72));
    }

    private static void meanAndDigest() {
        Check.sentence("mean: of how loud all pipes are that sound", ForesightEdgesTest::meanOfSounding);
        Check.sentence("mean: 0 without any", ForesightEdgesTest::meanOfNone);
        Check.sentence("digest: d starts with 827", ForesightEdgesTest::digestOfANewOne);
        Check.sentence("digest: wraps around as a 64-bit integer", ForesightEdgesTest::digestWraps);
        Check.sentence("digest: the heights of the next 5 hours, this one first", ForesightEdgesTest::digestOfHeights);
        Check.sentence("digest: (nothing is changed)", ForesightEdgesTest::askingChangesNothing);
    }

    private interface Call {
        void on(DriftOrgan organ, int argument);
    }

    private static void refuse(Class<? extends Exception> due, String name, Call call, int... wrong) {
        for (int argument : wrong) {
            Twins.refuse(Twins::lively, due, name + "(" + argument + ")", organ -> call.on(organ, argument));
        }
    }

    private static void wrongHours(String name, Call call, int most) {
        refuse(ARGUMENT, name, call, 0, -1, most + 1, LEAST, MOST);
        DriftOrgan organ = new DriftOrgan();
        for (int wrong : new int[] {0, -1, most + 1}) {
            Check.refuses(organ, "new: " + name + "(" + wrong + ")", ARGUMENT, () -> call.on(organ, wrong));
        }
        for (int right : new int[] {1, most}) {
            call.on(Twins.lively(), right);
            call.on(new DriftOrgan(), right);
        }
    }

    /** An organ in which the hour is that one, with a list that was just taught, at the tide. */
    private static DriftOrgan at(int hour, int tide, String list) {
        DriftOrgan organ = new DriftOrgan();
        for (int left = hour; left > 0; left -= 120) {
            organ.pass(Math.min(left, 120));
        }
        organ.setTide(tide);
        Check.same("teach of " + list, Check.teach(organ, list), 0);
        return organ;
    }

    private static void tides() {
        DriftOrgan organ = new DriftOrgan();
        int before = 4;
        for (int tide : new int[] {0, 9, 9, 0, 0, 5, 8, 1}) {
            Check.same("setTide(" + tide + ")", organ.setTide(tide), before);
            Check.same("the tide", organ.count(1), tide);
            Check.same("the height", organ.height(0), 2 * tide);
            before = tide;
        }
        DriftOrgan pressed = at(0, 9, CAVE);
        pressed.pass(1);
        pressed.setTide(0);
        Check.same("pressure is as it was", pressed.cave(0, 2), 9);
        pressed.pass(1);
        Check.same("till the next hour", pressed.cave(0, 2), 4);
    }

    private static void wrongTides() {
        refuse(ARGUMENT, "setTide", DriftOrgan::setTide, -1, 10, LEAST, MOST);
        Check.same("setTide(0)", Twins.lively().setTide(0), 7);
        Check.same("setTide(9)", Twins.lively().setTide(9), 7);
    }

    private static void cleanedTillTheNextHour() {
        // With a silt of 1 the need of p is 3 at the pressure 3, of which it is loud by 1; without it by 2.
        DriftOrgan organ = at(0, 1, CAVE + "pipe p in a length 4; pipe q in a length 40; shut a when hour = 3;");
        organ.pass(1);
        organ.setTide(3);
        organ.pass(1);
        Check.same("loud", organ.pipe(0, 5), 1);
        Check.same("clean", organ.clean(0), 1);
        Check.same("as loud", organ.pipe(0, 5), 1);
        Check.same("mean", organ.mean(), 1.0);
        Check.same("need", organ.pipe(0, 4), 2);
        Check.same("clean of a mute one", organ.clean(1), 2);
        Check.same("still mute", organ.pipe(1, 5), 0);
        organ.pass(1);
        Check.same("loud in the next hour", organ.pipe(0, 5), 3);
    }

    private static void siltBefore() {
        DriftOrgan organ = at(0, 1, CAVE + "pipe p in a length 40; pipe q in a length 40 reed;");
        Check.same("clean without silt", organ.clean(0), 0);
        organ.pass(30);
        Check.same("clean of 20", organ.clean(0), 20);
        Check.same("clean again", organ.clean(0), 0);
        Check.same("the other one is not cleaned", organ.pipe(1, 3), 20);
        Check.same("clean of a reed", organ.clean(1), 20);
        Check.same("all silt", organ.count(12), 0);
    }

    private static void wrongCleans() {
        refuse(INDEX, "clean", DriftOrgan::clean, -1, 12, LEAST, MOST);
        DriftOrgan none = Check.organ(Lists.caves(5));
        Check.refuses(none, "clean(0) of none", INDEX, () -> none.clean(0));
        DriftOrgan one = Check.organ(Lists.pipes(1));
        Check.same("clean(0) of one", one.clean(0), 0);
        Check.refuses(one, "clean(1) of one", INDEX, () -> one.clean(1));
        Check.same("clean(11) of twelve", Check.organ(Lists.pipes(12)).clean(11), 0);
    }

    private static void cutTillTheNextHour() {
        DriftOrgan organ = at(0, 5, CAVE + "pipe p in a length 8; pipe q in a length 40; chord c of p q;");
        organ.pass(1);
        Check.same("cut", organ.cut(0, 2), 6);
        Check.same("cut of a mute one", organ.cut(1, 39), 1);
        Check.same("as loud", organ.pipe(0, 5), 2);
        Check.same("still mute", organ.pipe(1, 5), 0);
        Check.same("the chord does not sound", organ.chord(0, 1), 0);
        Check.same("need", organ.pipe(0, 4), 3);
        Check.same("need of the mute one", organ.pipe(1, 4), 1);
        Check.same("silt of the mute one", organ.pipe(1, 3), 1);
        Check.same("until", organ.until(1), 1);
        organ.pass(1);
        Check.same("loud in the next hour", organ.pipe(0, 5), 5);
        Check.same("loud as well", organ.pipe(1, 5), 7);
    }

    private static void lengthThen() {
        DriftOrgan organ = Check.organ("cave a mouth 1 deep 1; pipe p in a length 40; pipe q in a length 40;");
        for (int length = 39; length >= 1; length--) {
            Check.same("cut(0, 1)", organ.cut(0, 1), length);
            Check.same("length", organ.pipe(0, 1), length);
            Check.same("need", organ.pipe(0, 4), length / 2);
        }
        Check.same("cut(1, 39)", organ.cut(1, 39), 1);
    }

    private static void cutsOfNoPipe() {
        refuse(INDEX, "cut(_, 1)", (organ, pipe) -> organ.cut(pipe, 1), -1, 12, LEAST, MOST);
        Check.same("cut(11, 1)", Twins.lively().cut(11, 1), 20);
        DriftOrgan none = new DriftOrgan();
        Check.refuses(none, "cut(0, 1) of none", INDEX, () -> none.cut(0, 1));
    }

    private static void cutsOfNothing() {
        refuse(ARGUMENT, "cut(0, _)", (organ, by) -> organ.cut(0, by), 0, -1, -39, LEAST, LEAST + 40);
        Check.same("cut(0, 1)", Twins.lively().cut(0, 1), 39);
    }

    private static void cutsOfAll() {
        for (int length : new int[] {1, 2, 3, 39, 40}) {
            String list = "cave a mouth 1 deep 1; pipe p in a length " + length + ";";
            for (int by : new int[] {length, length + 1, MOST}) {
                Twins.refuse(() -> Check.organ(list), ARGUMENT, "cut(0, " + by + ") of " + length, o -> o.cut(0, by));
            }
            if (length > 1) {
                Check.same("cut by all but 1", Check.organ(list).cut(0, length - 1), 1);
            }
        }
        DriftOrgan organ = Check.organ("cave a mouth 1 deep 1; pipe p in a length 7;");
        organ.cut(0, 3);
        Check.refuses(organ, "cut by what is left", ARGUMENT, () -> organ.cut(0, 4));
        Check.same("cut by all but 1 of what is left", organ.cut(0, 3), 1);
        Check.refuses(organ, "cut of 1", ARGUMENT, () -> organ.cut(0, 1));
    }

    private static void cutsOfNoPipeAndNothing() {
        int[][] wrong = {{-1, 0}, {12, 0}, {-1, 40}, {12, 40}, {LEAST, LEAST}, {MOST, MOST}, {12, -1}};
        for (int[] row : wrong) {
            Twins.refuse(Twins::lively, INDEX, "cut(" + row[0] + ", " + row[1] + ")", o -> o.cut(row[0], row[1]));
        }
    }

    private static void listenersThatCome() {
        DriftOrgan organ = at(5, 1, Lists.pipes(6) + Lists.chord("c", 6) + Lists.chord("d", 2));
        Check.same("by night", organ.pass(1), 0);
        Check.same("by day", organ.pass(1), 8);
        Check.same("only those that come", organ.pass(2), 16);
        Check.same("to the end of the day", organ.pass(13), 104);
        Check.same("by night again", organ.pass(8), 0);
        Check.same("none without pipes", new DriftOrgan().pass(24), 0);
    }

    private static void fewestAndMostHours() {
        DriftOrgan organ = at(117, 0, HOUR_237);
        Check.same("pass(120) up to the hour ahead", organ.pass(120), 0);
        Check.same("hour", organ.count(0), 237);
        Check.same("pass(1)", organ.pass(1), 2);
        Check.same("hour", organ.count(0), 238);
        DriftOrgan later = at(118, 0, HOUR_237);
        Check.same("pass(119) up to the hour ahead", later.pass(119), 0);
        Check.same("the hour of it", later.pass(1), 2);
        Check.same("pass(120) with it as the last hour", at(118, 0, HOUR_237).pass(120), 2);
        DriftOrgan whole = Check.organ(Lists.FULLEST);
        DriftOrgan parts = Check.organ(Lists.FULLEST);
        int came = 0;
        for (int hour = 0; hour < 120; hour++) {
            came += parts.pass(1);
        }
        Check.same("120 hours at once", whole.pass(120), came);
        Check.same("digest of both", whole.digest(), parts.digest());
    }

    private static void soundsNow() {
        DriftOrgan organ = at(0, 4, CAVE + "pipe p in a length 8; pipe q in a length 10; pipe r in a length 12;");
        Check.same("until(0) at first", organ.until(0), 1);
        organ.pass(1);
        Check.same("loud by 1", organ.until(0), 0);
        Check.same("loud by 0", organ.until(1), 1);
        organ.setTide(0);
        Check.same("still now", organ.until(0), 0);
    }

    private static void soundsBehind150Hours() {
        int[][] due = {{168, 1}, {167, 2}, {21, 148}, {20, 149}, {19, 150}, {18, -1}, {17, -1}};
        for (int[] row : due) {
            DriftOrgan organ = at(row[0], 0, HOUR_168);
            Check.same("until(0) in the hour " + row[0], organ.until(0), row[1]);
            Check.same("until(1) in the hour " + row[0], organ.until(1), row[1]);
        }
        Check.same("until of what never sounds", at(0, 1, CAVE + "pipe p in a length 40;").until(0), -1);
    }

    private static void untilChangesNothing() {
        for (int pipe = 0; pipe < 12; pipe++) {
            int asked = pipe;
            Twins.ask(Twins::lively, "until(" + pipe + ")", organ -> organ.until(asked));
        }
        DriftOrgan organ = at(18, 0, HOUR_168);
        Check.same("until", organ.until(0), -1);
        Check.same("until again", organ.until(0), -1);
        organ.pass(1);
        Check.same("until an hour later", organ.until(0), 150);
        Check.same("hour", organ.count(0), 19);
    }

    private static void untilByWhatIsNow() {
        DriftOrgan organ = at(0, 1, CAVE + "pipe p in a length 10; pipe q in a length 40;");
        Check.same("until at the tide 1", organ.until(0), -1);
        organ.setTide(5);
        Check.same("until at the tide 5", organ.until(0), 1);
        organ.setTide(1);
        organ.cut(0, 8);
        Check.same("until behind a cut", organ.until(0), 1);
        DriftOrgan silted = at(0, 1, CAVE + "pipe p in a length 10; shut a when hour = 3;");
        silted.pass(3);
        silted.setTide(7);
        Check.same("until with silt 3", silted.until(0), 3);
        silted.clean(0);
        Check.same("until without silt", silted.until(0), 2);
    }

    private static void wrongUntils() {
        refuse(INDEX, "until", DriftOrgan::until, -1, 12, LEAST, MOST);
        Check.holds("until(11)", Twins.lively().until(11) >= 0);
        DriftOrgan one = Check.organ(Lists.pipes(1));
        Check.same("until(0) of one", one.until(0), 1);
        Check.refuses(one, "until(1) of one", INDEX, () -> one.until(1));
    }

    private static void foreseesFewestAndMost() {
        DriftOrgan organ = at(118, 0, HOUR_237);
        Check.same("listeners within 119", organ.foresee(119, 0), 0);
        Check.same("listeners within 120", organ.foresee(120, 0), 2);
        Check.same("pipes that sound behind 119", organ.foresee(119, 2), 0);
        Check.same("pipes that sound behind 120", organ.foresee(120, 2), 2);
        DriftOrgan night = at(49, 0, HOUR_168);
        Check.same("complaints within 119", night.foresee(119, 1), 0);
        Check.same("complaints within 120", night.foresee(120, 1), 2);
        DriftOrgan next = at(237, 0, HOUR_237);
        Check.same("listeners within 1", next.foresee(1, 0), 2);
        Check.same("pipes that sound behind 1", next.foresee(1, 2), 2);
        Check.same("pipes that sound behind 2", next.foresee(2, 2), 0);
        Check.same("silt behind 1", at(0, 1, CAVE + "pipe p in a length 40;").foresee(1, 3), 1);
    }

    private static void foreseesAll() {
        for (int hours : new int[] {1, 2, 5, 24, 119, 120}) {
            DriftOrgan asked = Twins.lively();
            DriftOrgan passed = Twins.lively();
            int complaints = passed.count(11);
            int listeners = passed.pass(hours);
            int[] due = {listeners, passed.count(11) - complaints, passed.count(8), passed.count(12)};
            for (int what = 0; what <= 3; what++) {
                Check.same("foresee(" + hours + ", " + what + ")", asked.foresee(hours, what), due[what]);
            }
        }
    }

    private static void foreseeChangesNothing() {
        for (int what = 0; what <= 3; what++) {
            int asked = what;
            Twins.ask(Twins::lively, "foresee(1, " + what + ")", organ -> organ.foresee(1, asked));
            Twins.ask(Twins::lively, "foresee(120, " + what + ")", organ -> organ.foresee(120, asked));
        }
    }

    private static void foreseesNothingSuch() {
        for (int what : new int[] {-1, 4, LEAST, MOST}) {
            Twins.refuse(Twins::lively, INDEX, "foresee(1, " + what + ")", organ -> organ.foresee(1, what));
            Twins.refuse(Twins::lively, INDEX, "foresee(120, " + what + ")", organ -> organ.foresee(120, what));
            Twins.refuse(DriftOrgan::new, INDEX, "new: foresee(1, " + what + ")", organ -> organ.foresee(1, what));
        }
    }

    private static void foreseesBothWrong() {
        int[][] wrong = {{0, -1}, {0, 4}, {121, -1}, {121, 4}, {-1, -1}, {LEAST, LEAST}, {MOST, MOST}};
        for (int[] row : wrong) {
            Twins.refuse(Twins::lively, ARGUMENT, "foresee(" + row[0] + ", " + row[1] + ")",
                    organ -> organ.foresee(row[0], row[1]));
        }
    }

    // Only at the tide 7 the chord sounds, then always, but for the hours of the day that are shut.
    private static String onlyAtTide7(String shut) {
        return CAVE + "pipe p in a length 2; pipe q in a length 2; chord c of p q; shut a when not tide = 7" + shut + ";";
    }

    private static void listenersAndComplaints() {
        Check.same("1 hour by day", at(6, 4, onlyAtTide7("")).advise(1), 7);
        Check.same("1 hour by night", at(5, 4, onlyAtTide7("")).advise(1), 0);
        Check.same("1 hour by night and 2 by day: as much as nothing", at(5, 4, onlyAtTide7("")).advise(3), 0);
        Check.same("1 hour by night and 3 by day", at(5, 4, onlyAtTide7("")).advise(4), 7);
        Check.same("2 hours by day and 1 by night: as much as nothing", at(20, 4, onlyAtTide7("")).advise(3), 0);
        Check.same("3 hours by day and 1 by night", at(19, 4, onlyAtTide7("")).advise(4), 7);
        // Listeners and complaints of before do not count.
        DriftOrgan organ = at(6, 7, onlyAtTide7(""));
        organ.pass(16);
        Check.same("by night behind a day", organ.advise(1), 0);
        organ.pass(8);
        Check.same("by day behind a night", organ.advise(1), 7);
    }

    private static void advisesEachTide() {
        for (int tide = 0; tide <= 9; tide++) {
            String only = CAVE + "swell high 30 every 1 from 0; pipe p in a length 2; pipe q in a length 2; chord c of p q; "
                    + "shut a when not tide = " + tide + ";";
            Check.same("advise of " + tide, at(6, 4, only).advise(5), tide);
            String need = CAVE + "pipe p in a length " + Math.max(1, 2 * tide) + "; pipe q in a length 1; chord c of p q;";
            Check.same("advise of the need " + tide, at(6, 4, need).advise(1), tide);
        }
    }

    private static void advisesTheLeast() {
        Check.same("without pipes", new DriftOrgan().advise(72), 0);
        Check.same("all the same", at(6, 9, Lists.pipes(2).replace("length 2", "length 1") + Lists.chords(1)).advise(9), 0);
        String two = CAVE + "pipe p in a length 2; pipe q in a length 2; chord c of p q; ";
        Check.same("3 and 8", at(6, 9, two + "shut a when not [tide = 3 or tide = 8];").advise(9), 3);
        Check.same("8 and 9", at(6, 0, two + "shut a when tide < 8;").advise(9), 8);
        Check.same("all but 0 and 1", at(6, 1, two + "shut a when tide < 2;").advise(9), 2);
        Check.same("by night all but 0 to 4", at(22, 5, two + "shut a when tide < 5;").advise(8), 0);
        Check.same("by night those of less need", at(22, 5, two + "shut a when tide > 4;").advise(8), 0);
        Check.same("by night all but 6 and 9", at(22, 5, two + "swell high 30 every 1 from 0; "
                + "shut a when tide = 6 or tide = 9;").advise(8), 6);
    }

    private static void adviseChangesNothing() {
        Twins.ask(Twins::lively, "advise(1)", organ -> organ.advise(1));
        Twins.ask(Twins::lively, "advise(72)", organ -> organ.advise(72));
        DriftOrgan organ = at(6, 4, onlyAtTide7(""));
        organ.advise(72);
        Check.same("the tide", organ.count(1), 4);
        Check.same("the hour", organ.count(0), 6);
    }

    private static void advisesFewestAndMost() {
        // In the hour 237 the pressure is the tide and 15, in the evenings ahead the tide alone, which silts the pipes:
        // of 72 hours there are two such evenings, so that the need is 18, of 2 hours none, so that it is 16.
        String list = HOUR_237.replace("length 2;", "length 32;").replace("shut a when", "shut a when tide < 2 or");
        Check.same("advise(71)", at(166, 0, list).advise(71), 0);
        Check.same("advise(72)", at(166, 0, list).advise(72), 3);
        Check.same("advise(1) ahead of it", at(236, 0, list).advise(1), 0);
        Check.same("advise(2) ahead of it", at(236, 0, list).advise(2), 2);
        Check.same("advise(1) of it", at(237, 0, list).advise(1), 2);
    }

    /** Six pipes of need 1, with a silt of 2 each, on their cave with a pressure that is enough for those without. */
    private static DriftOrgan silted(int hour, String list) {
        DriftOrgan organ = at(hour, 1, CAVE + "pipe p0 in a length 4; pipe p1 in a length 4; pipe p2 in a length 4; "
                + "pipe p3 in a length 4; pipe l in a length 1; pipe m in a length 1; " + list);
        organ.pass(2);
        for (int pipe = 0; pipe < 4; pipe++) {
            Check.same("silt", organ.pipe(pipe, 3), 2);
        }
        organ.setTide(2);
        return organ;
    }

    private static void bestOfSeveral() {
        Check.same("one and another", silted(6, "chord c of p1 l; chord d of p2 l;").best(1), 1);
        Check.same("told the other way", silted(6, "chord c of p2 l; chord d of p1 l;").best(1), 1);
        Check.same("the first and the last", silted(6, "chord c of p3 l; chord d of p0 l;").best(1), 0);
        Check.same("the one by which more come", silted(6, "chord c of p0 l; chord d of p3 l m;").best(1), 3);
        Check.same("the one in more chords", silted(6, "chord c of p0 l; chord d of p2 l; chord e of p2 m;").best(1), 2);
    }

    private static void bestOfNone() {
        Check.same("of a new one", new DriftOrgan().best(1), -1);
        Check.same("of caves alone", Check.organ(Lists.caves(5)).best(72), -1);
    }

    private static void bestOfNothingMore() {
        Check.same("of what has no silt", Check.organ(Lists.pipes(2) + Lists.chords(1)).best(72), -1);
        Check.same("without chords", silted(6, "").best(1), -1);
        Check.same("if two are silted", silted(6, "chord c of p0 p1;").best(1), -1);
        Check.same("if it is mute without silt as well", silted(6, "pipe n in a length 6; chord c of n l;").best(1), -1);
        Check.same("by night", silted(0, "chord c of p0 l;").best(3), -1);
        Check.same("by day", silted(6, "chord c of p0 l;").best(3), 0);
        // Cleaning q makes b be shut, where the other chord would sound.
        DriftOrgan fewer = at(6, 1, CAVE + "pipe q in a length 4; cave b mouth 1 deep 2; pipe r in b length 2; "
                + "pipe s in b length 2; chord c of r s; shut b when silt q = 0 and hour > 6;");
        fewer.pass(2);
        fewer.setTide(2);
        Check.same("fewer come", fewer.best(1), -1);
    }

    private static void bestOfAll() {
        for (int pipe = 0; pipe < 12; pipe++) {
            StringBuilder list = new StringBuilder(CAVE);
            for (int i = 0; i < 12; i++) {
                list.append("pipe p").append(i).append(" in a length ").append(i == pipe ? 4 : 1).append("; ");
            }
            DriftOrgan organ = at(6, 1, list + "chord c of p" + pipe + " p" + (pipe + 5) % 12 + ";");
            organ.pass(2);
            organ.setTide(2);
            Check.same("best of " + pipe, organ.best(1), pipe);
        }
    }

    private static void bestChangesNothing() {
        Twins.ask(Twins::lively, "best(1)", organ -> organ.best(1));
        Twins.ask(Twins::lively, "best(72)", organ -> organ.best(72));
        DriftOrgan organ = silted(6, "chord c of p1 l;");
        Check.same("best", organ.best(1), 1);
        Check.same("silt", organ.pipe(1, 3), 2);
        Check.same("best again", organ.best(1), 1);
    }

    private static void bestWithinFewestAndMost() {
        // Silted in the hour 6; then the cave is shut at the tide 0, but for the hour 90, in which a swell comes.
        for (int hour : new int[] {18, 19, 89, 90}) {
            DriftOrgan organ = at(6, 1, CAVE + "pipe p in a length 30; pipe q in a length 2; chord c of p q; "
                    + "swell high 30 every 24 from 90; shut a when tide = 0 and not hour = 18;");
            organ.pass(1);
            Check.same("silt", organ.pipe(0, 3), 1);
            organ.setTide(0);
            organ.pass(hour - 7);
            int ahead = 90 - hour + 1;
            if (ahead > 1) {
                Check.same("best(" + (ahead - 1) + ") in the hour " + hour, organ.best(ahead - 1), -1);
            }
            if (ahead <= 72) {
                Check.same("best(" + ahead + ") in the hour " + hour, organ.best(ahead), 0);
            } else {
                Check.same("best(72) in the hour " + hour, organ.best(72), -1);
            }
        }
    }

    private static void meanOfSounding() {
        DriftOrgan organ = at(0, 4, CAVE + "pipe p in a length 8; pipe q in a length 10; pipe r in a length 6; "
                + "pipe s in a length 4; pipe t in a length 40;");
        organ.pass(1);
        Check.same("mean of 1, 2 and 3", organ.mean(), 2.0);
        DriftOrgan one = at(0, 4, CAVE + "pipe p in a length 8; pipe q in a length 10;");
        one.pass(1);
        Check.same("mean of 1 alone", one.mean(), 1.0);
        DriftOrgan two = at(0, 4, CAVE + "pipe p in a length 8; pipe q in a length 6; pipe r in a length 10;");
        two.pass(1);
        Check.same("mean of 1 and 2", two.mean(), 1.5);
        DriftOrgan thirds = at(0, 4, CAVE + "pipe p in a length 8; pipe q in a length 8; pipe r in a length 6;");
        thirds.pass(1);
        Check.same("mean of 1, 1 and 2", thirds.mean(), 4.0 / 3);
        DriftOrgan all = at(0, 9, Lists.pipes(12));
        all.pass(1);
        Check.same("mean of twelve", all.mean(), 18.0);
    }

    private static void meanOfNone() {
        Check.same("of a new one", new DriftOrgan().mean(), 0.0);
        DriftOrgan organ = at(0, 3, CAVE + "pipe p in a length 8;");
        Check.same("at first", organ.mean(), 0.0);
        organ.pass(1);
        Check.same("of a mute one", organ.mean(), 0.0);
        organ.setTide(5);
        organ.pass(1);
        Check.same("of a loud one", organ.mean(), 2.0);
    }

    /** The checksum of these numbers, reckoned without wrapping, and then wrapped around. */
    private static long checksum(List<Integer> numbers) {
        BigInteger sum = BigInteger.valueOf(827);
        for (int number : numbers) {
            sum = sum.multiply(BigInteger.valueOf(31)).add(BigInteger.valueOf(number));
        }
        return sum.longValue();
    }

    private static List<Integer> digested(DriftOrgan organ, int... heights) {
        List<Integer> numbers = new ArrayList<>();
        for (int what = 0; what <= 13; what++) {
            numbers.add(organ.count(what));
        }
        for (int cave = 0; cave < organ.count(2); cave++) {
            for (int what = 0; what <= 4; what++) {
                numbers.add(organ.cave(cave, what));
            }
        }
        for (int pipe = 0; pipe < organ.count(3); pipe++) {
            for (int what = 0; what <= 6; what++) {
                numbers.add(organ.pipe(pipe, what));
            }
        }
        for (int chord = 0; chord < organ.count(4); chord++) {
            for (int what = 0; what <= 3; what++) {
                numbers.add(organ.chord(chord, what));
            }
            for (int place = 0; place < organ.chord(chord, 0); place++) {
                numbers.add(organ.note(chord, place));
            }
        }
        for (int height : heights) {
            numbers.add(height);
        }
        return numbers;
    }

    private static void digestOfANewOne() {
        List<Integer> numbers = List.of(0, 4, 0, 0, 0, 0, 0, 0, 0, 0, 0, 0, 0, 0, 8, 8, 8, 8, 8);
        Check.same("digest of a new one", new DriftOrgan().digest(), checksum(numbers));
        DriftOrgan fed = new DriftOrgan();
        fed.setTide(0);
        fed.feed(0, 0, 0, 0, 0);
        List<Integer> later = List.of(0, 0, 0, 0, 0, 0, 0, 0, 0, 0, 0, 0, 0, 20, 0, 0, 0, 0, 0);
        Check.same("digest with 20 bytes at low tide", fed.digest(), checksum(later));
    }

    private static void digestWraps() {
        boolean below = false;
        boolean above = false;
        for (int gone = 1; gone <= 20; gone++) {
            DriftOrgan organ = Twins.lively();
            organ.pass(gone);
            int hour = organ.count(0);
            int[] heights = new int[5];
            for (int ahead = 0; ahead < 5; ahead++) {
                heights[ahead] = organ.height(hour + ahead);
            }
            long digest = organ.digest();
            Check.same("digest in the hour " + hour, digest, checksum(digested(organ, heights)));
            below |= digest < 0;
            above |= digest > 0;
        }
        Check.holds("digests below and above 0", below && above);
    }

    private static void digestOfHeights() {
        String list = "swell high 1 every 24 from 10; swell high 2 every 24 from 11; swell high 3 every 24 from 12; "
                + "swell high 4 every 24 from 13; swell high 5 every 24 from 14;";
        DriftOrgan organ = at(10, 0, list);
        Check.same("digest in the hour 10", organ.digest(), checksum(digested(organ, 1, 2, 3, 4, 5)));
        organ = at(9, 0, list);
        Check.same("digest in the hour 9", organ.digest(), checksum(digested(organ, 0, 1, 2, 3, 4)));
        organ = at(11, 0, list);
        Check.same("digest in the hour 11", organ.digest(), checksum(digested(organ, 2, 3, 4, 5, 0)));
        organ = at(0, 0, list);
        Check.same("digest in the hour 0", organ.digest(), checksum(digested(organ, 0, 0, 0, 0, 0)));
        organ = at(6, 0, list);
        Check.same("digest in the hour 6", organ.digest(), checksum(digested(organ, 0, 0, 0, 0, 1)));
        // 9994 is 24 * 416 + 10; of these hours height() tells none behind 9999, but there are heights.
        organ = at(9994, 0, list);
        Check.same("digest in the hour 9994", organ.digest(), checksum(digested(organ, 1, 2, 3, 4, 5)));
        organ = at(9998, 0, list);
        Check.same("digest in the hour 9998", organ.digest(), checksum(digested(organ, 5, 0, 0, 0, 0)));
        organ = at(10018, 0, list);
        Check.same("digest in the hour 10018", organ.digest(), checksum(digested(organ, 1, 2, 3, 4, 5)));
    }

    private static void askingChangesNothing() {
        Twins.ask(Twins::lively, "digest()", DriftOrgan::digest);
        Twins.ask(Twins::lively, "mean()", DriftOrgan::mean);
        Twins.ask(DriftOrgan::new, "new: digest()", DriftOrgan::digest);
        Twins.ask(DriftOrgan::new, "new: mean()", DriftOrgan::mean);
    }
}
