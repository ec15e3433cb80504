import java.nio.charset.StandardCharsets;

/** What the tests share: comparing, and telling an organ its list. */
final class Check {
    private static int made = 0;
    private static int wrong = 0;
    private static int sentences = 0;
    private static String sentence = "";

    private Check() {
    }

    /** Runs the test of one sentence of the document; what is wrong in it is told with the sentence. */
    static void sentence(String words, Runnable test) {
        sentences++;
        int before = made;
        sentence = "[" + words + "] ";
        test.run();
        if (made == before) {
            fail("nothing is checked");
        }
        sentence = "";
    }

    static void same(String what, long got, long want) {
        made++;
        if (got != want) {
            fail(what + " answered " + got + ", due is " + want);
        }
    }

    static void same(String what, double got, double want) {
        made++;
        if (got != want) {
            fail(what + " answered " + got + ", due is " + want);
        }
    }

    static void holds(String what, boolean held) {
        made++;
        if (!held) {
            fail(what + " does not hold");
        }
    }

    /** The call has to throw just this, and to leave all that can be asked as it was. */
    static void refuses(DriftOrgan organ, String what, Class<? extends Exception> due, Runnable call) {
        made++;
        long before = organ.digest();
        int errorBefore = organ.errorAt();
        Class<?> thrown = null;
        try {
            call.run();
        } catch (RuntimeException e) {
            thrown = e.getClass();
        }
        if (thrown != due) {
            fail(what + " threw " + thrown + ", due is " + due);
        }
        if (organ.digest() != before || organ.errorAt() != errorBefore) {
            fail(what + " was refused, but changed something");
        }
    }

    static void fail(String what) {
        wrong++;
        if (wrong <= 50) {
            System.out.println(sentence + what);
        }
    }

    static boolean allRight() {
        return wrong == 0;
    }

    static void end() {
        System.out.println((sentences > 0 ? sentences + " sentences, " : "") + made + " checks, " + wrong + " wrong");
        if (wrong != 0) {
            System.exit(1);
        }
    }

    /** Appends the text to the tape, and answers how many bytes the tape has. */
    static int feed(DriftOrgan organ, String text) {
        byte[] bytes = text.getBytes(StandardCharsets.ISO_8859_1);
        int kept = organ.count(13) + bytes.length;
        for (int from = 0; from < bytes.length; from += 20) {
            organ.feed(word(bytes, from), word(bytes, from + 4), word(bytes, from + 8), word(bytes, from + 12),
                    word(bytes, from + 16));
        }
        return organ.trim(kept);
    }

    private static int word(byte[] bytes, int from) {
        int word = 0;
        for (int i = from; i < from + 4; i++) {
            word = word << 8 | (i < bytes.length ? bytes[i] & 255 : 0);
        }
        return word;
    }

    static int teach(DriftOrgan organ, String list) {
        feed(organ, list);
        return organ.teach();
    }

    /** The error due of a list, in which a ^ stands ahead of the token of the error. */
    static void error(int due, String marked) {
        int mark = marked.indexOf('^');
        String list = marked.replace("^", "");
        DriftOrgan organ = new DriftOrgan();
        same("teach of " + marked, teach(organ, list), due);
        same("errorAt of " + marked, organ.errorAt(), mark);
        same("tape behind " + marked, organ.count(13), 0);
    }

    static void fits(String list) {
        error(0, list);
    }

    static DriftOrgan organ(String list) {
        DriftOrgan organ = new DriftOrgan();
        same("teach of " + list, teach(organ, list), 0);
        return organ;
    }
}
