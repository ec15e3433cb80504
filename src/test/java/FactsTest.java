/** Promises 6 to 13: what there is. */
public final class FactsTest {
    static final String SAMPLE = "cave a mouth 3 deep 2; cave b mouth 1 deep 4;\n"
            + "pipe p in a length 7; pipe q in a length 10 reed; pipe r in b length 1;\n"
            + "swell high 5 every 4 from 2; silence from 20 to 3;\n"
            + "chord c of p q; chord d of r p q;\n"
            + "shut b when hour = 8; clean q when silt q > 5;";

    public static void main(String[] args) {
        counts();
        caves();
        wouldBeShut();
        pipes();
        chords();
        lengthsApart();
        heights();
        silences();
        Check.end();
    }

    private static void counts() {
        DriftOrgan organ = Check.organ(SAMPLE);
        facts(organ, "count", 0, 4, 2, 3, 2, 1, 1, 2, 0, 0, 0, 0, 0, 0);
        organ.pass(3);
        // In silence all pressure is 0, which is enough for a need of 0.
        facts(organ, "count in silence", 3, 4, 2, 3, 2, 1, 1, 2, 1, 0, 0, 0, 0, 0);
        organ.pass(2);
        organ.setTide(6);
        organ.feed(0, 0, 0, 0, 0);
        facts(organ, "count by night", 5, 6, 2, 3, 2, 1, 1, 2, 3, 2, 0, 10, 0, 20);
        organ.setTide(4);
        organ.pass(4);
        facts(organ, "count by day", 9, 4, 2, 3, 2, 1, 1, 2, 3, 2, 15, 15, 0, 20);
        for (int what : new int[] {-1, 14, Integer.MIN_VALUE, Integer.MAX_VALUE}) {
            Check.refuses(organ, "count(" + what + ")", IndexOutOfBoundsException.class, () -> organ.count(what));
        }
        DriftOrgan silted = Check.organ("cave a mouth 1 deep 8; pipe p in a length 40; pipe s in a length 40 reed; "
                + "swell high 1 every 9 from 9; swell high 2 every 9 from 9; silence from 9 to 8; silence from 1 to 1; "
                + "silence from 9 to 8; clean s when 1 = 2; clean s when 1 = 2; clean s when 1 = 2;");
        Check.same("swells", silted.count(5), 2);
        Check.same("silences", silted.count(6), 3);
        Check.same("orders", silted.count(7), 3);
    }

    private static void facts(DriftOrgan organ, String what, int... due) {
        for (int i = 0; i < due.length; i++) {
            Check.same(what + "(" + i + ")", organ.count(i), due[i]);
        }
    }

    private static void caves() {
        DriftOrgan organ = Check.organ(SAMPLE);
        cave(organ, 0, 3, 2, 0, 2, 1);
        cave(organ, 1, 1, 4, 0, 1, 1);
        organ.pass(3);
        cave(organ, 0, 3, 2, 0, 2, 0);
        organ.pass(1);
        cave(organ, 0, 3, 2, 12, 2, 0);
        cave(organ, 1, 1, 4, 2, 1, 0);
        organ.pass(4);
        cave(organ, 0, 3, 2, 26, 2, 0);
        cave(organ, 1, 1, 4, 4, 1, 1);
        organ.pass(1);
        cave(organ, 0, 3, 2, 25, 2, 0);
        cave(organ, 1, 1, 4, 0, 1, 0);
        int[][] wrong = {{-1, 0}, {2, 0}, {0, -1}, {0, 5}, {Integer.MAX_VALUE, 0}, {0, Integer.MIN_VALUE}, {-1, -1}};
        for (int[] call : wrong) {
            Check.refuses(organ, "cave(" + call[0] + ", " + call[1] + ")", IndexOutOfBoundsException.class,
                    () -> organ.cave(call[0], call[1]));
        }
    }

    private static void cave(DriftOrgan organ, int cave, int... due) {
        for (int i = 0; i < due.length; i++) {
            Check.same("cave(" + cave + ", " + i + ") in the hour " + organ.count(0), organ.cave(cave, i), due[i]);
        }
    }

    private static void wouldBeShut() {
        DriftOrgan organ = Check.organ("cave a mouth 1 deep 1; cave b mouth 1 deep 1; "
                + "shut b when pressure a > 7; shut a when pressure b > 7; shut b when tide = 9;");
        Check.same("b by the pressure of now", organ.cave(1, 4), 0);
        organ.pass(1);
        Check.same("a was pressed first", organ.cave(0, 2), 8);
        Check.same("b was shut in its turn", organ.cave(1, 2), 0);
        Check.same("b would be shut again", organ.cave(1, 4), 1);
        Check.same("a would not", organ.cave(0, 4), 0);
        organ.setTide(0);
        for (int i = 0; i < 4; i++) {
            organ.pass(1);
        }
        Check.same("a at 0", organ.cave(0, 2), 0);
        Check.same("b by no order", organ.cave(1, 4), 0);
        organ.setTide(9);
        Check.same("b by its other order", organ.cave(1, 4), 1);
        Check.same("a by no order", organ.cave(0, 4), 0);
    }

    private static void pipes() {
        DriftOrgan organ = Check.organ(SAMPLE);
        pipe(organ, 0, 0, 7, 0, 0, 3, 0, 0);
        pipe(organ, 1, 0, 10, 1, 0, 5, 0, 0);
        pipe(organ, 2, 1, 1, 0, 0, 0, 0, 0);
        organ.pass(9);
        pipe(organ, 0, 0, 7, 0, 0, 3, 23, 6);
        pipe(organ, 1, 0, 10, 1, 0, 5, 21, 6);
        pipe(organ, 2, 1, 1, 0, 0, 0, 1, 9);
        int[][] wrong = {{-1, 0}, {3, 0}, {0, -1}, {0, 7}, {Integer.MIN_VALUE, 0}, {0, Integer.MAX_VALUE}, {3, 7}};
        for (int[] call : wrong) {
            Check.refuses(organ, "pipe(" + call[0] + ", " + call[1] + ")", IndexOutOfBoundsException.class,
                    () -> organ.pipe(call[0], call[1]));
        }
        DriftOrgan silted = Check.organ("cave a mouth 1 deep 8; pipe p in a length 39; pipe s in a length 38 reed;");
        silted.pass(3);
        pipe(silted, 0, 0, 39, 0, 3, 22, 0, 0);
        pipe(silted, 1, 0, 38, 1, 6, 31, 0, 0);
    }

    private static void pipe(DriftOrgan organ, int pipe, int... due) {
        for (int i = 0; i < due.length; i++) {
            Check.same("pipe(" + pipe + ", " + i + ") in the hour " + organ.count(0), organ.pipe(pipe, i), due[i]);
        }
    }

    private static void chords() {
        DriftOrgan organ = Check.organ(SAMPLE);
        chord(organ, 0, 2, 0, 3, 0);
        chord(organ, 1, 3, 0, 9, 0);
        organ.pass(9);
        chord(organ, 0, 2, 1, 3, 6);
        chord(organ, 1, 3, 1, 9, 6);
        organ.cut(1, 4);
        chord(organ, 0, 2, 1, 1, 6);
        organ.setTide(0);
        organ.pass(12);
        // The silence from 20 on has left r alone.
        chord(organ, 0, 2, 0, 1, organ.chord(0, 3));
        Check.same("the pipes of d", organ.note(1, 0) * 100 + organ.note(1, 1) * 10 + organ.note(1, 2), 201);
        Check.same("the pipes of c", organ.note(0, 0) * 10 + organ.note(0, 1), 1);
        int[][] wrong = {{-1, 0}, {2, 0}, {0, -1}, {0, 4}, {Integer.MAX_VALUE, 0}, {2, 4}};
        for (int[] call : wrong) {
            Check.refuses(organ, "chord(" + call[0] + ", " + call[1] + ")", IndexOutOfBoundsException.class,
                    () -> organ.chord(call[0], call[1]));
        }
        int[][] wrongNotes = {{-1, 0}, {2, 0}, {0, -1}, {0, 2}, {1, 3}, {Integer.MAX_VALUE, 0}, {0, Integer.MAX_VALUE}};
        for (int[] call : wrongNotes) {
            Check.refuses(organ, "note(" + call[0] + ", " + call[1] + ")", IndexOutOfBoundsException.class,
                    () -> organ.note(call[0], call[1]));
        }
    }

    private static void chord(DriftOrgan organ, int chord, int... due) {
        for (int i = 0; i < due.length; i++) {
            Check.same("chord(" + chord + ", " + i + ") in the hour " + organ.count(0), organ.chord(chord, i), due[i]);
        }
    }

    private static void lengthsApart() {
        DriftOrgan organ = Check.organ("cave a mouth 1 deep 1; pipe p in a length 7; pipe q in a length 10; "
                + "pipe r in a length 1; pipe s in a length 40; pipe t in a length 39; pipe u in a length 20; "
                + "pipe v in a length 12; pipe w in a length 30;");
        int[][] due = {{0, 1, 5}, {1, 0, 5}, {0, 2, 6}, {2, 3, 39}, {3, 2, 39}, {3, 4, 39}, {3, 5, 1}, {6, 7, 3},
            {0, 0, 0}, {2, 2, 0}};
        for (int[] call : due) {
            Check.same("apart(" + call[0] + ", " + call[1] + ")", organ.apart(call[0], call[1]), call[2]);
        }
        organ.cut(1, 3);
        Check.same("apart of two as long", organ.apart(0, 1), 0);
        int[][] wrong = {{-1, 0}, {8, 0}, {0, -1}, {0, 8}, {9, 9}};
        for (int[] call : wrong) {
            Check.refuses(organ, "apart(" + call[0] + ", " + call[1] + ")", IndexOutOfBoundsException.class,
                    () -> organ.apart(call[0], call[1]));
        }
    }

    private static void heights() {
        DriftOrgan organ = Check.organ("swell high 3 every 5 from 2; swell high 30 every 24 from 99; "
                + "swell high 7 every 1 from 50; swell high 1 every 5 from 2;");
        int[][] due = {{0, 8}, {1, 8}, {2, 12}, {3, 8}, {7, 12}, {49, 8}, {50, 15}, {52, 19}, {98, 15}, {99, 45},
            {100, 15}, {122, 19}, {123, 45}, {147, 49}, {9999, 15}, {9997, 19}};
        for (int[] call : due) {
            Check.same("height(" + call[0] + ")", organ.height(call[0]), call[1]);
        }
        organ.setTide(0);
        Check.same("height at low tide", organ.height(99), 37);
        organ.setTide(9);
        organ.pass(60);
        Check.same("height of an hour gone by", organ.height(2), 22);
        for (int hour : new int[] {-1, 10000, Integer.MIN_VALUE, Integer.MAX_VALUE}) {
            Check.refuses(organ, "height(" + hour + ")", IllegalArgumentException.class, () -> organ.height(hour));
        }
    }

    private static void silences() {
        silent("silence from 5 to 8;", "000001110000000000000000");
        silent("silence from 20 to 3;", "111000000000000000001111");
        silent("silence from 0 to 0;", "111111111111111111111111");
        silent("silence from 23 to 23;", "111111111111111111111111");
        silent("silence from 23 to 0;", "000000000000000000000001");
        silent("silence from 0 to 23;", "111111111111111111111110");
        silent("silence from 0 to 1; silence from 5 to 7; silence from 6 to 9;", "100001111000000000000000");
        silent("", "000000000000000000000000");
        DriftOrgan organ = Check.organ("silence from 5 to 6;");
        for (int hour : new int[] {-1, 10000, Integer.MIN_VALUE, Integer.MAX_VALUE}) {
            Check.refuses(organ, "isSilent(" + hour + ")", IllegalArgumentException.class, () -> organ.isSilent(hour));
        }
        // 9989 is 5 behind 24 * 416.
        Check.holds("silence in 9989", organ.isSilent(9989));
        Check.holds("none in 9999", !organ.isSilent(9999));
    }

    private static void silent(String list, String due) {
        DriftOrgan organ = Check.organ(list);
        for (int hour = 0; hour < 72; hour++) {
            Check.same("isSilent(" + hour + ") by " + list, organ.isSilent(hour) ? 1 : 0, due.charAt(hour % 24) - '0');
        }
    }
}
