/** Promises 14 to 16: what is done by hand. */
public final class HandTest {
    public static void main(String[] args) {
        tide();
        cleaning();
        cutting();
        Check.end();
    }

    private static void tide() {
        DriftOrgan organ = Check.organ("cave a mouth 1 deep 1;");
        Check.same("setTide(9)", organ.setTide(9), 4);
        Check.same("setTide(0)", organ.setTide(0), 9);
        Check.same("setTide(0) again", organ.setTide(0), 0);
        Check.same("the tide", organ.count(1), 0);
        Check.same("setTide(3)", organ.setTide(3), 0);
        organ.pass(1);
        Check.same("pressure by it", organ.cave(0, 2), 6);
        Check.same("the tide stays", organ.count(1), 3);
        for (int wrong : new int[] {-1, 10, Integer.MIN_VALUE, Integer.MAX_VALUE}) {
            Check.refuses(organ, "setTide(" + wrong + ")", IllegalArgumentException.class, () -> organ.setTide(wrong));
        }
    }

    private static void cleaning() {
        // Pressure 1, 1, 1 and so on, so that what is short sounds and what is long gets silted.
        DriftOrgan organ = Check.organ("cave a mouth 1 deep 8; pipe p in a length 40; pipe q in a length 40 reed; "
                + "pipe r in a length 3;");
        organ.pass(3);
        Check.same("r is loud", organ.pipe(2, 5), 1);
        Check.same("all silt", organ.count(12), 9);
        Check.same("clean(0)", organ.clean(0), 3);
        Check.same("clean(1)", organ.clean(1), 6);
        Check.same("clean(1) again", organ.clean(1), 0);
        Check.same("clean(2)", organ.clean(2), 0);
        Check.same("silt of 0", organ.pipe(0, 3), 0);
        Check.same("need of 1", organ.pipe(1, 4), 20);
        Check.same("r is as loud", organ.pipe(2, 5), 1);
        Check.same("hours stay", organ.pipe(2, 6), 3);
        int[] wrong = {-1, 3, Integer.MIN_VALUE, Integer.MAX_VALUE};
        for (int pipe : wrong) {
            Check.refuses(organ, "clean(" + pipe + ")", IndexOutOfBoundsException.class, () -> organ.clean(pipe));
        }
        DriftOrgan none = new DriftOrgan();
        Check.refuses(none, "clean(0) of none", IndexOutOfBoundsException.class, () -> none.clean(0));
    }

    private static void cutting() {
        DriftOrgan organ = Check.organ("cave a mouth 1 deep 1; pipe p in a length 40; pipe q in a length 9 reed; "
                + "pipe r in a length 1; chord c of p q;");
        organ.pass(1);
        Check.same("q is loud", organ.pipe(1, 5), 5);
        Check.same("cut(1, 3)", organ.cut(1, 3), 6);
        Check.same("length", organ.pipe(1, 1), 6);
        Check.same("need", organ.pipe(1, 4), 3);
        Check.same("as loud", organ.pipe(1, 5), 5);
        Check.same("chord", organ.chord(0, 2), 34);
        Check.same("cut(0, 39)", organ.cut(0, 39), 1);
        Check.same("p is not loud yet", organ.pipe(0, 5), 0);
        Check.same("p is not loud now", organ.until(0), 1);
        organ.pass(1);
        Check.same("p is loud", organ.pipe(0, 5), 12);
        Check.same("q is louder", organ.pipe(1, 5), 10);
        refuses(organ, 0, 1, IllegalArgumentException.class);
        refuses(organ, 2, 1, IllegalArgumentException.class);
        refuses(organ, 1, 6, IllegalArgumentException.class);
        refuses(organ, 1, 7, IllegalArgumentException.class);
        refuses(organ, 1, 0, IllegalArgumentException.class);
        refuses(organ, 1, -1, IllegalArgumentException.class);
        refuses(organ, 1, Integer.MIN_VALUE, IllegalArgumentException.class);
        refuses(organ, 1, Integer.MAX_VALUE, IllegalArgumentException.class);
        refuses(organ, -1, 1, IndexOutOfBoundsException.class);
        refuses(organ, 3, 1, IndexOutOfBoundsException.class);
        refuses(organ, 3, 0, IndexOutOfBoundsException.class);
        Check.same("cut(1, 5)", organ.cut(1, 5), 1);
        // A list taught anew brings its own lengths.
        Check.same("teach", Check.teach(organ, "cave a mouth 1 deep 1; pipe p in a length 40;"), 0);
        Check.same("length anew", organ.pipe(0, 1), 40);
    }

    private static void refuses(DriftOrgan organ, int pipe, int by, Class<? extends Exception> due) {
        Check.refuses(organ, "cut(" + pipe + ", " + by + ")", due, () -> organ.cut(pipe, by));
    }
}
