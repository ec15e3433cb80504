/** Promises 18 to 23: what would be, the mean and the checksum. */
public final class ForesightTest {
    public static void main(String[] args) {
        untilItSounds();
        longestUntil();
        foreseeing();
        advising();
        bestToClean();
        means();
        digests();
        Check.end();
    }

    private static void untilItSounds() {
        DriftOrgan organ = Check.organ(FactsTest.SAMPLE + "pipe z in b length 40;");
        long before = organ.digest();
        Check.same("until(0)", organ.until(0), 4);
        Check.same("until(2)", organ.until(2), 1);
        Check.same("until(3), never", organ.until(3), -1);
        Check.same("until changes nothing", organ.digest(), before);
        organ.setTide(0);
        Check.same("until(0) by the tide of now", organ.until(0), 7);
        organ.setTide(4);
        organ.pass(4);
        Check.same("until(0) now", organ.until(0), 0);
        organ.cut(0, 6);
        organ.clean(0);
        Check.same("until(0) still", organ.until(0), 0);
        for (int pipe : new int[] {-1, 4, Integer.MIN_VALUE, Integer.MAX_VALUE}) {
            Check.refuses(organ, "until(" + pipe + ")", IndexOutOfBoundsException.class, () -> organ.until(pipe));
        }
    }

    /** From the hour 12 on there are 202 listeners as the hour 161 begins, the 150th; it is by day. */
    private static void longestUntil() {
        for (int listeners : new int[] {200, 202, 203, 204}) {
            DriftOrgan organ = new DriftOrgan();
            organ.pass(12);
            Check.same("teach", Check.teach(organ, "cave a mouth 1 deep 1; cave b mouth 1 deep 1; pipe p in a length 1; "
                    + "pipe q in a length 1; pipe r in b length 2; chord c of p q; shut b when listeners < " + listeners + ";"), 0);
            int due = listeners <= 200 ? 149 : listeners <= 202 ? 150 : -1;
            Check.same("until(2), shut below " + listeners, organ.until(2), due);
        }
    }

    private static void foreseeing() {
        DriftOrgan organ = Check.organ(FactsTest.SAMPLE);
        long before = organ.digest();
        int[][] due = {{9, 0, 15}, {9, 1, 15}, {9, 2, 3}, {9, 3, 0}, {3, 0, 0}, {3, 1, 0}, {3, 2, 1}, {5, 1, 10}, {8, 0, 10}};
        for (int[] call : due) {
            Check.same("foresee(" + call[0] + ", " + call[1] + ")", organ.foresee(call[0], call[1]), call[2]);
        }
        Check.same("foresee changes nothing", organ.digest(), before);
        organ.pass(7);
        Check.same("only what comes", organ.foresee(2, 0), 10);
        Check.same("no complaints come", organ.foresee(2, 1), 0);
        DriftOrgan silted = Check.organ("cave a mouth 1 deep 8; pipe p in a length 40; pipe q in a length 40 reed;");
        silted.pass(2);
        Check.same("silt then", silted.foresee(3, 3), 15);
        Check.same("the most hours", silted.foresee(120, 3), 40);
        silted.setTide(0);
        Check.same("by the tide of now", silted.foresee(3, 3), 6);
        refuses(organ, 0, 0, IllegalArgumentException.class);
        refuses(organ, 121, 0, IllegalArgumentException.class);
        refuses(organ, Integer.MIN_VALUE, 0, IllegalArgumentException.class);
        refuses(organ, Integer.MAX_VALUE, 0, IllegalArgumentException.class);
        refuses(organ, 0, -1, IllegalArgumentException.class);
        refuses(organ, 121, 4, IllegalArgumentException.class);
        refuses(organ, 1, -1, IndexOutOfBoundsException.class);
        refuses(organ, 120, 4, IndexOutOfBoundsException.class);
    }

    private static void refuses(DriftOrgan organ, int hours, int what, Class<? extends Exception> due) {
        Check.refuses(organ, "foresee(" + hours + ", " + what + ")", due, () -> organ.foresee(hours, what));
    }

    private static void advising() {
        // Tide 5 presses 10 at once, which is what both pipes need; tide 4 does so an hour later, and less never.
        String list = "cave a mouth 1 deep 1; pipe p in a length 20; pipe q in a length 20; chord c of p q;";
        DriftOrgan organ = from(6, list);
        long before = organ.digest();
        Check.same("advise by day", organ.advise(10), 5);
        Check.same("advise changes nothing", organ.digest(), before);
        Check.same("advise by night", from(0, list).advise(6), 0);
        Check.same("advise of 2 hours by day", from(20, list).advise(2), 5);
        // Two hours by day and one by night: 4 listeners less twice 2 complaints is no more than nothing.
        Check.same("advise of one by night as well", from(20, list).advise(3), 0);
        Check.same("advise of 3 and 1", from(19, list).advise(4), 5);
        Check.same("advise without pipes", new DriftOrgan().advise(72), 0);
        for (int hours : new int[] {0, -1, 73, Integer.MIN_VALUE, Integer.MAX_VALUE}) {
            Check.refuses(organ, "advise(" + hours + ")", IllegalArgumentException.class, () -> organ.advise(hours));
        }
        String oneTide = " shut a when tide > 7; shut a when tide < 7;";
        Check.same("advise of the one tide", from(6, list + oneTide).advise(16), 7);
        Check.same("advise of the one tide by night", from(22, list + oneTide).advise(8), 0);
    }

    private static DriftOrgan from(int hour, String list) {
        DriftOrgan organ = new DriftOrgan();
        if (hour > 0) {
            organ.pass(hour);
        }
        Check.same("teach of " + list, Check.teach(organ, list), 0);
        return organ;
    }

    private static void bestToClean() {
        // At the tide 1 all but r gets silt 12 in twelve hours; then only what is cleaned can sound at the tide 4.
        String list = "cave a mouth 1 deep 1; pipe p in a length 40; pipe q in a length 18; pipe r in a length 1; "
                + "pipe s in a length 18; pipe t in a length 1; ";
        DriftOrgan organ = silted(list + "chord c of q r;");
        long before = organ.digest();
        Check.same("best", organ.best(5), 1);
        Check.same("best changes nothing", organ.digest(), before);
        organ.clean(1);
        Check.same("best of nothing more", organ.best(5), -1);
        Check.same("best of two the same", silted(list + "chord c of s r; chord d of q r;").best(5), 1);
        Check.same("best of a smaller and a greater one", silted(list + "chord c of q r; chord d of s r t;").best(5), 3);
        Check.same("best of two that both are silted", silted(list + "chord c of q s;").best(5), -1);
        Check.same("best of complaints alone", silted(list + "chord c of q r; shut a when hour > 11 and hour < 22;").best(18), -1);
        Check.same("best without pipes", new DriftOrgan().best(72), -1);
        Check.same("best of new pipes", Check.organ(list).best(1), -1);
        for (int hours : new int[] {0, -1, 73, Integer.MIN_VALUE, Integer.MAX_VALUE}) {
            Check.refuses(organ, "best(" + hours + ")", IllegalArgumentException.class, () -> organ.best(hours));
        }
        Check.holds("best(72)", organ.best(72) >= -1);
    }

    private static DriftOrgan silted(String list) {
        DriftOrgan organ = Check.organ(list);
        organ.setTide(1);
        organ.pass(12);
        Check.same("silt of q", organ.pipe(1, 3), 12);
        organ.setTide(4);
        return organ;
    }

    private static void means() {
        DriftOrgan organ = Check.organ(FactsTest.SAMPLE);
        Check.same("mean of none", organ.mean(), 0.0);
        organ.pass(1);
        Check.same("mean of one", organ.mean(), 1.0);
        organ.pass(3);
        Check.same("mean of 10, 8 and 3", organ.mean(), 7.0);
        organ.pass(1);
        Check.same("mean of 16, 14 and 4", organ.mean(), 34.0 / 3);
        DriftOrgan half = Check.organ("cave a mouth 1 deep 1; pipe p in a length 9; pipe q in a length 11; pipe r in a length 40;");
        half.pass(1);
        Check.same("mean of 5 and 4", half.mean(), 4.5);
    }

    private static void digests() {
        Check.same("digest of a new one", new DriftOrgan().digest(), told(new DriftOrgan(), new int[] {8, 8, 8, 8, 8}));
        DriftOrgan organ = Check.organ(FactsTest.SAMPLE);
        for (int time = 0; time < 6; time++) {
            int hour = organ.count(0);
            int[] heights = new int[5];
            for (int i = 0; i < 5; i++) {
                heights[i] = organ.height(hour + i);
            }
            Check.same("digest in the hour " + hour, organ.digest(), told(organ, heights));
            if (time == 3) {
                organ.feed(1, 2, 3, 4, 5);
                organ.cut(0, 2);
                organ.setTide(6);
            }
            organ.pass(3);
        }
        DriftOrgan late = Check.organ("swell high 3 every 8 from 5; cave a mouth 1 deep 1; pipe p in a length 3;");
        for (int i = 0; i < 84; i++) {
            late.pass(120);
        }
        Check.same("the hour", late.count(0), 10080);
        // 10080 is 8 * 1260, so that the swell comes 5 hours behind it, and then each 8.
        Check.same("digest in the hour 10080", late.digest(), told(late, new int[] {8, 8, 8, 8, 8}));
        late.pass(1);
        Check.same("digest in the hour 10081", late.digest(), told(late, new int[] {8, 8, 8, 8, 11}));
    }

    private static long told(DriftOrgan organ, int[] heights) {
        long d = 827;
        for (int what = 0; what < 14; what++) {
            d = d * 31 + organ.count(what);
        }
        for (int cave = 0; cave < organ.count(2); cave++) {
            for (int what = 0; what < 5; what++) {
                d = d * 31 + organ.cave(cave, what);
            }
        }
        for (int pipe = 0; pipe < organ.count(3); pipe++) {
            for (int what = 0; what < 7; what++) {
                d = d * 31 + organ.pipe(pipe, what);
            }
        }
        for (int chord = 0; chord < organ.count(4); chord++) {
            for (int what = 0; what < 4; what++) {
                d = d * 31 + organ.chord(chord, what);
            }
            for (int place = 0; place < organ.chord(chord, 0); place++) {
                d = d * 31 + organ.note(chord, place);
            }
        }
        for (int height : heights) {
            d = d * 31 + height;
        }
        return d;
    }
}
