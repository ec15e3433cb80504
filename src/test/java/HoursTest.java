/** Promise 17: how an hour goes, and what tests of orders answer in it. */
public final class HoursTest {
    public static void main(String[] args) {
        sample();
        listenersByDay();
        silting();
        blowingClean();
        cleanOrders();
        shuttingByTurns();
        signs();
        wrapping();
        whatTestsSee();
        wrongHours();
        Check.end();
    }

    private static void sample() {
        DriftOrgan organ = Check.organ(FactsTest.SAMPLE);
        Check.same("hours 0 to 2", organ.pass(3), 0);
        state(organ, 0, 0, 0, 0, 1, 0, 0);
        Check.same("hour 3", organ.pass(1), 0);
        state(organ, 12, 2, 10, 8, 3, 0, 5);
        Check.same("hour 4", organ.pass(1), 0);
        state(organ, 18, 3, 16, 14, 4, 0, 10);
        Check.same("hour 5", organ.pass(1), 0);
        state(organ, 21, 3, 19, 17, 4, 0, 15);
        Check.same("hour 6", organ.pass(1), 5);
        state(organ, 29, 4, 27, 25, 5, 5, 15);
        Check.same("hour 7", organ.pass(1), 5);
        state(organ, 26, 4, 24, 22, 5, 10, 15);
        Check.same("hour 8", organ.pass(1), 5);
        state(organ, 25, 0, 23, 21, 1, 15, 15);
        DriftOrgan twin = Check.organ(FactsTest.SAMPLE);
        Check.same("hours 0 to 8", twin.pass(9), 15);
        state(twin, 25, 0, 23, 21, 1, 15, 15);
    }

    private static void state(DriftOrgan organ, int... due) {
        int[] got = {organ.cave(0, 2), organ.cave(1, 2), organ.pipe(0, 5), organ.pipe(1, 5), organ.pipe(2, 5),
            organ.count(10), organ.count(11)};
        for (int i = 0; i < due.length; i++) {
            Check.same("ahead of the hour " + organ.count(0) + ", number " + i, got[i], due[i]);
        }
    }

    private static void listenersByDay() {
        DriftOrgan organ = Check.organ("cave a mouth 1 deep 1; pipe p in a length 1; pipe q in a length 1; chord c of p q;");
        int[][] due = {{6, 0, 12}, {1, 2, 12}, {14, 28, 12}, {1, 2, 12}, {1, 0, 14}, {1, 0, 16}, {6, 0, 28}, {1, 2, 28},
            {120, 160, 108}};
        for (int[] step : due) {
            String name = "pass(" + step[0] + ") in the hour " + organ.count(0);
            Check.same(name, organ.pass(step[0]), step[1]);
            Check.same(name + ": complaints", organ.count(11), step[2]);
        }
        Check.same("hours of the chord", organ.chord(0, 3), 151);
        Check.same("hours of a pipe", organ.pipe(1, 6), 151);
    }

    private static void silting() {
        DriftOrgan organ = Check.organ("cave a mouth 1 deep 8; pipe p in a length 40; pipe q in a length 40 reed; "
                + "pipe r in a length 3;");
        int[][] due = {{1, 1, 2}, {1, 2, 4}, {7, 9, 18}, {1, 10, 20}, {1, 11, 20}, {8, 19, 20}, {1, 20, 20}, {30, 20, 20}};
        for (int[] step : due) {
            organ.pass(step[0]);
            Check.same("silt of p in the hour " + organ.count(0), organ.pipe(0, 3), step[1]);
            Check.same("silt of q in the hour " + organ.count(0), organ.pipe(1, 3), step[2]);
        }
        Check.same("what sounds softly keeps its silt", organ.pipe(2, 3), 0);
        DriftOrgan calm = Check.organ("cave a mouth 1 deep 8; pipe p in a length 40; pipe q in a length 40 reed;");
        calm.setTide(3);
        calm.pass(20);
        Check.same("no silt without pressure", calm.count(12), 0);
    }

    private static void blowingClean() {
        // p has silt 3 and s silt 2 as the swell of the hour 3 comes; the tide then tells how loud they are.
        int[][] due = {{4, 4, 3, 3, 2}, {5, 5, 3, 4, 2}, {7, 6, 2, 5, 2}, {9, 7, 2, 6, 1}};
        for (int[] row : due) {
            DriftOrgan organ = Check.organ("cave a mouth 1 deep 4; pipe p in a length 8; pipe s in a length 8 reed; "
                    + "swell high 30 every 24 from 3;");
            organ.pass(2);
            organ.clean(1);
            organ.pass(1);
            Check.same("silt of p", organ.pipe(0, 3), 3);
            Check.same("silt of s", organ.pipe(1, 3), 2);
            organ.setTide(row[0]);
            organ.pass(1);
            String by = " by the tide " + row[0];
            Check.same("loud p" + by, organ.pipe(0, 5), row[1]);
            Check.same("silt p" + by, organ.pipe(0, 3), row[2]);
            Check.same("loud s" + by, organ.pipe(1, 5), row[3]);
            Check.same("silt s" + by, organ.pipe(1, 3), row[4]);
        }
        DriftOrgan loud = Check.organ("cave a mouth 9 deep 1; pipe p in a length 1;");
        loud.pass(5);
        Check.same("no silt below 0", loud.pipe(0, 3), 0);
    }

    private static void cleanOrders() {
        String pipes = "cave a mouth 1 deep 8; pipe p in a length 40; pipe s in a length 40 reed; ";
        DriftOrgan organ = Check.organ(pipes + "clean p when silt p > 0; clean s when silt p = 0;");
        organ.pass(1);
        Check.same("one order behind the other", organ.count(12), 0);
        organ = Check.organ(pipes + "clean s when silt p = 0; clean p when silt p > 0;");
        organ.pass(1);
        Check.same("one order ahead of the other", organ.pipe(1, 3), 2);
        Check.same("and the other", organ.pipe(0, 3), 0);
        organ = Check.organ(pipes + "clean s; clean p when hour = 2;");
        organ.pass(2);
        Check.same("ahead of the hour 2", organ.pipe(0, 3), 2);
        Check.same("without a test", organ.pipe(1, 3), 0);
        organ.pass(1);
        Check.same("in the hour 2", organ.pipe(0, 3), 0);
        organ = Check.organ(pipes + "clean p when hour = 1; pipe r in a length 1; pipe t in a length 1; chord c of r t; "
                + "clean s when listeners = 2;");
        organ.pass(7);
        Check.same("cleaned in the hour 1", organ.pipe(0, 3), 5);
        Check.same("listeners come behind the orders", organ.pipe(1, 3), 14);
        organ.pass(1);
        Check.same("and are there in the next hour", organ.pipe(1, 3), 0);
        organ = Check.organ(pipes + "cave b mouth 1 deep 1; shut b when 1 = 1; clean p when 1 = 2;");
        organ.pass(3);
        Check.same("an order of shut cleans nothing", organ.pipe(1, 3), 6);
        organ = Check.organ("cave a mouth 1 deep 1; pipe p in a length 1; pipe q in a length 1; clean p when sounds p; "
                + "chord c of p q;");
        organ.pass(24);
        Check.same("a chord sounds by how loud its pipes are", organ.chord(0, 3), 24);
    }

    private static void shuttingByTurns() {
        DriftOrgan organ = Check.organ("cave a mouth 1 deep 1; cave b mouth 1 deep 1; pipe p in a length 10; "
                + "shut b when pressure a >= 12; shut a when pressure b > 100; shut b when loud p = 7;");
        organ.pass(1);
        Check.same("b open", organ.cave(1, 2), 8);
        organ.pass(1);
        Check.same("a pressed", organ.cave(0, 2), 12);
        Check.same("b shut by a just pressed", organ.cave(1, 2), 0);
        DriftOrgan still = Check.organ("cave a mouth 1 deep 1; cave b mouth 1 deep 1; silence from 1 to 2;");
        still.pass(1);
        Check.same("pressed", still.cave(0, 2), 8);
        still.pass(1);
        Check.same("a in silence", still.cave(0, 2), 0);
        Check.same("b in silence", still.cave(1, 2), 0);
        still.pass(2);
        Check.same("half, and more", still.cave(0, 2), 12);
        still.pass(22);
        Check.same("silence of the next day", still.cave(0, 2), 0);
        // 13 * 2 / 4 is 6, half of 6 is 3
        DriftOrgan cut = Check.organ("cave a mouth 2 deep 4; swell high 5 every 1 from 0;");
        cut.pass(1);
        Check.same("cut once", cut.cave(0, 2), 6);
        cut.pass(1);
        Check.same("cut twice", cut.cave(0, 2), 9);
        cut.pass(1);
        Check.same("cut thrice", cut.cave(0, 2), 10);
    }

    private static void test(String test, boolean due) {
        DriftOrgan organ = Check.organ("cave a mouth 1 deep 1; shut a when " + test + ";");
        Check.same("shut by " + test, organ.cave(0, 4), due ? 1 : 0);
        organ.pass(1);
        Check.same("pressure by " + test, organ.cave(0, 2), due ? 0 : 8);
    }

    private static void signs() {
        for (int left = 1; left <= 3; left++) {
            test(left + " < 2", left < 2);
            test(left + " > 2", left > 2);
            test(left + " = 2", left == 2);
            test(left + " <= 2", left <= 2);
            test(left + " >= 2", left >= 2);
        }
        String[] truths = {"1 = 2", "1 = 1"};
        for (int i = 0; i < 8; i++) {
            boolean a = (i & 4) != 0;
            boolean b = (i & 2) != 0;
            boolean c = (i & 1) != 0;
            String x = truths[i >> 2 & 1];
            String y = truths[i >> 1 & 1];
            String z = truths[i & 1];
            test(x + " and " + y + " or " + z, a && b || c);
            test(x + " or " + y + " and " + z, a || b && c);
            test("[" + x + " or " + y + "] and " + z, (a || b) && c);
            test("not " + x + " and " + y + " or not not " + z, !a && b || c);
            test("not [" + x + " and " + y + "] or " + z, !(a && b) || c);
        }
        String[] sums = {"2 + 3 * 4 = 14", "(2 + 3) * 4 = 20", "10 - 3 - 2 = 5", "10 - (3 - 2) = 9", "20 / 5 / 2 = 2",
            "20 / (5 / 2) = 10", "20 / 5 * 2 = 8", "7 / 2 = 3", "-7 / 2 = -3", "7 / -2 = -3", "-7 / -2 = 3", "7 / 0 = 0",
            "-7 / (1 - 1) = 0", "0 / 0 = 0", "- - 3 = 3", "-3 + 5 = 2", "-3 * -4 = 12", "-(3 + 4) = -7", "2 - -3 = 5",
            "min(3, 5) = 3", "min(5, 3) = 3", "max(3, 5) = 5", "max(5, -3) = 5", "min(-1, 0) = -1",
            "max(min(1, 2), min(3, 4)) = 3", "1 + min(2, 3) * 2 = 5", "007 = 7", "hour = 0", "tide = 4", "listeners = 0",
            "pressure a = 0"};
        for (String sum : sums) {
            test(sum, true);
            test("not " + sum, false);
        }
    }

    private static void wrapping() {
        String least = "(-65536 * 32768)";
        String[] sums = {"65536 * 32768 < 0", "65536 * 65536 = 0", least + " / -1 = " + least, "-" + least + " = " + least,
            least + " - 1 > 0", "(65536 * 32767 + 65535) + 1 = " + least, "999999 * 999999 = -(729379 * 1000 + 967)",
            least + " < 65536 * 32767", "not 65536 * 32767 < " + least, least + " * -1 = " + least, least + " / 2 = -65536 * 16384"};
        for (String sum : sums) {
            test(sum, true);
        }
    }

    private static void whatTestsSee() {
        String list = "cave a mouth 1 deep 1; cave b mouth 1 deep 8; pipe p in a length 1; pipe q in a length 5; "
                + "pipe s in b length 40; chord c of p q; silence from 23 to 0; ";
        Check.same("14 listeners", Check.organ(list).pass(13), 14);
        for (int hours : new int[] {1, 3, 7, 9, 22, 24, 25, 31}) {
            DriftOrgan plain = Check.organ(list);
            plain.setTide(5);
            plain.pass(hours);
            String[] readings = {"hour = " + hours % 24, "tide = 5", "listeners = " + plain.count(10),
                "pressure a = " + plain.cave(0, 2), "pressure b = " + plain.cave(1, 2), "silt s = " + plain.pipe(2, 3),
                "loud p = " + plain.pipe(0, 5), "loud q = " + plain.pipe(1, 5), "sounds p", "not sounds s"};
            for (String reading : readings) {
                Check.same(reading + " behind " + hours + " hours", seen(list, hours, plain.count(10), reading), 1);
                Check.same("not " + reading + " behind " + hours + " hours", seen(list, hours, plain.count(10), "not " + reading), 0);
            }
        }
    }

    /** Whether b would be shut by the test at that moment, which no moment ahead of it is like. */
    private static int seen(String list, int hours, int listeners, String test) {
        DriftOrgan organ = Check.organ(list + "shut b when " + test + " and hour = " + hours % 24 + " and listeners = "
                + listeners + ";");
        organ.setTide(5);
        organ.pass(hours);
        return organ.cave(1, 4);
    }

    private static void wrongHours() {
        DriftOrgan organ = Check.organ(FactsTest.SAMPLE);
        for (int hours : new int[] {0, -1, 121, Integer.MIN_VALUE, Integer.MAX_VALUE}) {
            Check.refuses(organ, "pass(" + hours + ")", IllegalArgumentException.class, () -> organ.pass(hours));
        }
        Check.holds("pass(120)", organ.pass(120) > 0);
        Check.same("hour", organ.count(0), 120);
    }
}
