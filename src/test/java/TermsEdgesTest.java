/** The sentences of 'What it is' and 'Terms' that name an edge, each by itself. */
public final class TermsEdgesTest {
    private static final int LEAST = Integer.MIN_VALUE;
    private static final int MOST = Integer.MAX_VALUE;

    public static void main(String[] args) {
        Check.sentence("An object is used for at most 512 calls after it has been made", TermsEdgesTest::manyCalls);
        Check.sentence("sums of the language wrap around in 32 bits", TermsEdgesTest::sums);
        Check.sentence("differences of the language wrap around in 32 bits", TermsEdgesTest::differences);
        Check.sentence("products of the language wrap around in 32 bits", TermsEdgesTest::products);
        Check.sentence("what a - in front turns wraps around in 32 bits", TermsEdgesTest::turned);
        Check.sentence("each of several steps wraps around", TermsEdgesTest::stepByStep);
        Check.sentence("the least and the most are compared without wrapping", TermsEdgesTest::comparedFarApart);
        Check.sentence("/ is cut towards 0", TermsEdgesTest::cutTowardsZero);
        Check.sentence("/ gives 0 with 0 on the right side", TermsEdgesTest::zeroOnTheRight);
        Check.sentence("-2147483648 / -1 gives -2147483648", TermsEdgesTest::leastByMinusOne);
        Check.sentence("Positions of the tape are counted from 0, in bytes", TermsEdgesTest::positions);
        Check.sentence("Time is told in hours, from 0", TermsEdgesTest::timeFromZero);
        Check.sentence("the hour of the day is the hour by the remainder of 24", TermsEdgesTest::hourOfTheDay);
        Check.end();
    }

    private static void manyCalls() {
        DriftOrgan passing = new DriftOrgan();
        for (int call = 1; call <= 511; call++) {
            passing.pass(120);
        }
        Check.same("hour behind 511 times pass(120), call 512", passing.count(0), 61320);
        DriftOrgan dear = Twins.lively();
        int best = dear.best(72);
        int until = dear.until(1);
        // Not more than 120 calls have made it lively.
        for (int i = 0; i < 195; i++) {
            Check.same("best(72) again", dear.best(72), best);
            Check.same("until(1) again", dear.until(1), until);
        }
        DriftOrgan taught = new DriftOrgan();
        for (int i = 0; i < 5; i++) {
            for (int bytes = 20; bytes <= 2000; bytes += 20) {
                taught.feed(0x20202020, 0x0a0a0a0a, 0x20202020, 0x20202020, 0x20202020);
            }
            Check.same("teach of 2000 blanks", taught.teach(), 0);
        }
        for (int i = 505; i < 511; i++) {
            Check.same("setTide(4)", taught.setTide(4), 4);
        }
        Check.same("the hour, call 512", taught.count(0), 0);
    }

    /** A number in the language; none of its steps wraps around. */
    private static String literal(int number) {
        if (number >= 0) {
            return "(" + (number >>> 16) + " * 65536 + " + (number & 65535) + ")";
        }
        long turned = -(long) number;
        return "(-" + (turned >> 16) + " * 65536 - " + (turned & 65535) + ")";
    }

    private static void test(String test, boolean due) {
        DriftOrgan organ = Check.organ("cave a mouth 1 deep 1; pipe p in a length 9; shut a when " + test + ";");
        Check.same(test, organ.cave(0, 4), due ? 1 : 0);
    }

    private static void gives(String sum, int due) {
        test(sum + " = " + literal(due), true);
        test(sum + " < " + literal(due), false);
        test(sum + " > " + literal(due), false);
    }

    private static void gives(int left, String sign, int right, int due) {
        gives(literal(left) + " " + sign + " " + literal(right), due);
    }

    private static void sums() {
        gives(MOST - 1, "+", 1, MOST);
        gives(MOST, "+", 0, MOST);
        gives(MOST, "+", 1, LEAST);
        gives(1, "+", MOST, LEAST);
        gives(MOST, "+", MOST, -2);
        gives(LEAST + 1, "+", -1, LEAST);
        gives(LEAST, "+", 0, LEAST);
        gives(LEAST, "+", -1, MOST);
        gives(-1, "+", LEAST, MOST);
        gives(LEAST, "+", LEAST, 0);
    }

    private static void differences() {
        gives(LEAST + 1, "-", 1, LEAST);
        gives(LEAST, "-", 0, LEAST);
        gives(LEAST, "-", 1, MOST);
        gives(MOST - 1, "-", -1, MOST);
        gives(MOST, "-", -1, LEAST);
        gives(-1, "-", MOST, LEAST);
        gives(-2, "-", MOST, MOST);
        gives(-1, "-", LEAST, MOST);
        gives(0, "-", LEAST, LEAST);
        gives(MOST, "-", LEAST, -1);
        gives(LEAST, "-", LEAST, 0);
    }

    private static void products() {
        gives(46340, "*", 46340, 2147395600);
        gives(46341, "*", 46341, -2147479015);
        gives(-46341, "*", 46341, 2147479015);
        gives(65536, "*", 32767, 2147418112);
        gives(65536, "*", 32768, LEAST);
        gives(65536, "*", -32768, LEAST);
        gives(65536, "*", 65536, 0);
        gives(65537, "*", 65537, 131073);
        gives(999999, "*", 999999, -729379967);
        gives(MOST, "*", 1, MOST);
        gives(MOST, "*", -1, LEAST + 1);
        gives(LEAST, "*", -1, LEAST);
        gives(-1, "*", LEAST, LEAST);
        gives(MOST, "*", MOST, 1);
        gives(LEAST, "*", 2, 0);
    }

    private static void turned() {
        gives("-" + literal(MOST), LEAST + 1);
        gives("-" + literal(LEAST + 1), MOST);
        gives("-" + literal(LEAST), LEAST);
        gives("- -" + literal(LEAST), LEAST);
        gives("-" + literal(0), 0);
    }

    private static void stepByStep() {
        gives(literal(MOST) + " + 1 - 1", MOST);
        gives(literal(MOST) + " * 2 / 2", -1);
        gives("(" + literal(MOST) + " + " + literal(MOST) + ") / 2", -1);
        gives(literal(LEAST) + " - 1 + 1", LEAST);
        gives("65536 * 65536 / 65536", 0);
        gives("min(" + literal(MOST) + " + 1, 0)", LEAST);
        gives("max(" + literal(LEAST) + " - 1, 0)", MOST);
    }

    private static void comparedFarApart() {
        String most = literal(MOST);
        String least = literal(LEAST);
        test(least + " < " + most, true);
        test(most + " < " + least, false);
        test(least + " > " + most, false);
        test(most + " > " + least, true);
        test(least + " <= " + most, true);
        test(most + " <= " + least, false);
        test(least + " >= " + most, false);
        test(most + " >= " + least, true);
        test(least + " = " + most, false);
        test(least + " <= " + least, true);
        test(most + " >= " + most, true);
        gives("min(" + most + ", " + least + ")", LEAST);
        gives("max(" + least + ", " + most + ")", MOST);
    }

    private static void cutTowardsZero() {
        int[][] due = {{0, 1, 0}, {0, -1, 0}, {1, 2, 0}, {-1, 2, 0}, {1, -2, 0}, {-1, -2, 0}, {2, 2, 1}, {-2, 2, -1},
            {3, 2, 1}, {-3, 2, -1}, {3, -2, -1}, {-3, -2, 1}, {-4, 2, -2}, {5, 6, 0}, {-5, 6, 0}, {6, 6, 1}, {-6, 6, -1},
            {11, 6, 1}, {-11, 6, -1}, {MOST, 2, 1073741823}, {LEAST, 2, -1073741824}, {LEAST, 3, -715827882},
            {MOST, LEAST, 0}, {LEAST, MOST, -1}, {LEAST, LEAST, 1}, {MOST, -2, -1073741823}, {LEAST, -2, 1073741824}};
        for (int[] row : due) {
            gives(row[0], "/", row[1], row[2]);
        }
    }

    private static void zeroOnTheRight() {
        for (int left : new int[] {0, 1, -1, 999999, MOST, LEAST}) {
            gives(literal(left) + " / 0", 0);
            gives(literal(left) + " / 1", left);
            gives(literal(left) + " / (3 - 3)", 0);
            gives(literal(left) + " / silt p", 0);
            gives(literal(left) + " / (65536 * 65536)", 0);
        }
        gives("7 / -0", 0);
        gives("7 / 0 + 2", 2);
        gives("7 / (0 / 0) * 3 - 4", -4);
        gives("7 / -1", -7);
    }

    private static void leastByMinusOne() {
        gives(LEAST, "/", -1, LEAST);
        gives(LEAST, "/", 1, LEAST);
        gives(LEAST + 1, "/", -1, MOST);
        gives(MOST, "/", -1, LEAST + 1);
        gives(literal(LEAST) + " / -1 / -1", LEAST);
    }

    private static void positions() {
        for (int place : new int[] {0, 1, 2, 19, 20, 21, 1998, 1999}) {
            DriftOrgan organ = new DriftOrgan();
            Check.same("teach", Check.teach(organ, " ".repeat(place) + "!"), 1);
            Check.same("a ! behind so many blanks", organ.errorAt(), place);
        }
        DriftOrgan lines = new DriftOrgan();
        Check.teach(lines, "\n\n cave\n  a\n;");
        Check.same("line ends are a byte each", lines.errorAt(), 12);
    }

    private static void timeFromZero() {
        DriftOrgan organ = new DriftOrgan();
        Check.same("the first hour", organ.count(0), 0);
        organ.pass(1);
        Check.same("the next one", organ.count(0), 1);
    }

    private static void hourOfTheDay() {
        String list = "cave a mouth 1 deep 1; silence from 23 to 0; shut a when hour = ";
        int[][] due = {{0, 0}, {1, 1}, {22, 22}, {23, 23}, {24, 0}, {25, 1}, {47, 23}, {48, 0}, {71, 23}, {72, 0},
            {119, 23}, {120, 0}};
        for (int[] row : due) {
            DriftOrgan organ = new DriftOrgan();
            if (row[0] > 0) {
                organ.pass(row[0]);
            }
            Check.same("teach", Check.teach(organ, list + row[1] + ";"), 0);
            Check.same("hour = " + row[1] + " in the hour " + row[0], organ.cave(0, 4), 1);
            Check.same("silence in the hour " + row[0], organ.isSilent(row[0]) ? 1 : 0, row[1] == 23 ? 1 : 0);
            if (row[1] != 23) {
                Check.teach(organ, list + "24 or hour = " + (row[1] + 1) + " or hour < 0;");
                Check.same("no other hour in the hour " + row[0], organ.cave(0, 4), 0);
            }
        }
    }
}
