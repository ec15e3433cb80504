/** Promises 1 to 3: a new object, feed and trim. */
public final class TapeTest {
    public static void main(String[] args) {
        newObject();
        feeding();
        bytesInOrder();
        fullTape();
        trimming();
        Check.end();
    }

    private static void newObject() {
        DriftOrgan organ = new DriftOrgan();
        int[] counts = {0, 4, 0, 0, 0, 0, 0, 0, 0, 0, 0, 0, 0, 0};
        for (int what = 0; what < counts.length; what++) {
            Check.same("new: count(" + what + ")", organ.count(what), counts[what]);
        }
        Check.same("new: errorAt", organ.errorAt(), -1);
        Check.same("new: height", organ.height(7), 8);
        Check.holds("new: no silence", !organ.isSilent(0));
        Check.same("new: mean", organ.mean(), 0.0);
        Check.same("new: teach", organ.teach(), 0);
        Check.same("new: pass", organ.pass(3), 0);
        Check.same("new: hour", organ.count(0), 3);
        Check.refuses(organ, "new: cave(0, 0)", IndexOutOfBoundsException.class, () -> organ.cave(0, 0));
        Check.refuses(organ, "new: pipe(0, 0)", IndexOutOfBoundsException.class, () -> organ.pipe(0, 0));
        Check.refuses(organ, "new: chord(0, 0)", IndexOutOfBoundsException.class, () -> organ.chord(0, 0));
    }

    private static void feeding() {
        DriftOrgan organ = new DriftOrgan();
        Check.same("feed once", organ.feed(1, 2, 3, 4, 5), 20);
        Check.same("feed twice", organ.feed(-1, Integer.MIN_VALUE, Integer.MAX_VALUE, 0, 7), 40);
        Check.same("bytes fed", organ.count(13), 40);
    }

    private static void bytesInOrder() {
        for (int place = 0; place < 20; place++) {
            int[] words = {0x20202020, 0x20202020, 0x20202020, 0x20202020, 0x20202020};
            words[place / 4] += 1 << 24 - place % 4 * 8;
            DriftOrgan organ = new DriftOrgan();
            organ.feed(words[0], words[1], words[2], words[3], words[4]);
            organ.teach();
            Check.same("place of the byte " + place, organ.errorAt(), place);
        }
        DriftOrgan organ = new DriftOrgan();
        // "cave" " a m" "outh" " 9 d" "eep " and "7;  " written as numbers by hand
        organ.feed(0x63617665, 0x2061206d, 0x6f757468, 0x20392064, 0x65657020);
        organ.feed(0x373b2020, 0x20202020, 0x0a202020, 0x20202020, 0x20202020);
        Check.same("teach of numbers", organ.teach(), 0);
        Check.same("mouth of numbers", organ.cave(0, 0), 9);
        Check.same("deep of numbers", organ.cave(0, 1), 7);
        organ.feed(0x3b202020, 0x20202020, 0x20202020, 0x20202020, 0x20202020);
        organ.teach();
        Check.same("first byte of the first number", organ.errorAt(), 0);
        organ.feed(0x20202020, 0x20202020, 0x20202020, 0x20202020, 0x202020ff);
        organ.teach();
        Check.same("last byte of the last number, above 127", organ.errorAt(), 19);
    }

    private static void fullTape() {
        DriftOrgan organ = new DriftOrgan();
        for (int i = 1; i <= 100; i++) {
            Check.same("feed " + i, organ.feed(0, 0, 0, 0, 0), 20 * i);
        }
        Check.refuses(organ, "feed 101", IllegalStateException.class, () -> organ.feed(0, 0, 0, 0, 0));
        Check.same("bytes of the full tape", organ.count(13), 2000);
        Check.same("trim to 1981", organ.trim(1981), 1981);
        Check.refuses(organ, "feed to 2001", IllegalStateException.class, () -> organ.feed(0, 0, 0, 0, 0));
        Check.same("trim to 1980", organ.trim(1980), 1980);
        Check.same("feed to 2000", organ.feed(0, 0, 0, 0, 0), 2000);
        Check.same("teach of zeros", organ.teach(), 1);
        Check.same("feed behind teach", organ.feed(0, 0, 0, 0, 0), 20);
    }

    private static void trimming() {
        DriftOrgan organ = new DriftOrgan();
        Check.same("trim of nothing", organ.trim(0), 0);
        Check.refuses(organ, "trim(1) of nothing", IllegalArgumentException.class, () -> organ.trim(1));
        Check.same("feed", Check.feed(organ, "cave a mouth 1 deep 2;;;;;"), 26);
        Check.refuses(organ, "trim(-1)", IllegalArgumentException.class, () -> organ.trim(-1));
        Check.refuses(organ, "trim(27)", IllegalArgumentException.class, () -> organ.trim(27));
        Check.refuses(organ, "trim to the least", IllegalArgumentException.class, () -> organ.trim(Integer.MIN_VALUE));
        Check.refuses(organ, "trim to the most", IllegalArgumentException.class, () -> organ.trim(Integer.MAX_VALUE));
        Check.same("trim to all", organ.trim(26), 26);
        Check.same("trim to the first 22", organ.trim(22), 22);
        Check.same("bytes then", organ.count(13), 22);
        Check.same("teach of the first 22", organ.teach(), 0);
        Check.same("deep", organ.cave(0, 1), 2);
    }
}
