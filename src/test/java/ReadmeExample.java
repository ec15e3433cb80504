import java.nio.ByteBuffer;
import java.nio.IntBuffer;
import java.nio.charset.StandardCharsets;
import java.util.Arrays;

/** The example of README.md, which shows this file as it stands here. */
public final class ReadmeExample {
    private static final String LIST = """
            cave a mouth 6 deep 3;
            pipe p in a length 24; pipe q in a length 13 reed;
            swell high 7 every 3 from 1;
            silence from 22 to 6;
            chord c of p q;
            shut a when pressure a > 40;
            clean q when silt q >= 4;
            """;

    public static void main(String[] args) {
        DriftOrgan organ = new DriftOrgan();
        feed(organ, LIST);
        System.out.println("error " + organ.teach() + " at " + organ.errorAt());
        System.out.println(organ.count(3) + " pipes, the need of q is " + organ.pipe(1, 4));

        System.out.println("p will sound behind " + organ.until(0) + " hours");
        System.out.println("in three days " + organ.foresee(72, 0) + " listeners would come");
        System.out.println("the tide was " + organ.setTide(organ.advise(72)) + ", the best one is " + organ.count(1));
        System.out.println(organ.pass(72) + " listeners came, and " + organ.count(11) + " complaints");
        System.out.println("c sounded in " + organ.chord(0, 3) + " hours, q has the silt " + organ.pipe(1, 3));

        feed(organ, "cave b mouth 12 deep 3;");
        System.out.println("error " + organ.teach() + " at " + organ.errorAt());
        try {
            organ.cave(1, 0);
        } catch (IndexOutOfBoundsException e) {
            System.out.println("there is no cave 1, and still " + organ.count(10) + " listeners");
        }
    }

    /** Appends a text to the tape: twenty bytes a call, and then without what the last call had too many. */
    private static void feed(DriftOrgan organ, String text) {
        byte[] bytes = text.getBytes(StandardCharsets.US_ASCII);
        int end = organ.count(13) + bytes.length;
        for (int from = 0; from < bytes.length; from += 20) {
            IntBuffer five = ByteBuffer.wrap(Arrays.copyOfRange(bytes, from, from + 20)).asIntBuffer();
            organ.feed(five.get(0), five.get(1), five.get(2), five.get(3), five.get(4));
        }
        organ.trim(end);
    }
}
