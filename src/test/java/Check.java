import java.nio.charset.StandardCharsets;
import java.util.Set;

/** Counts answers that are not as due, and feeds texts. */
final class Check {
    private static final Set<String> HELPERS = Set.of("Check", "Edges");
    private int asked;
    private int wrong;
    private String about = "";

    void about(String promise) {
        about = promise;
    }

    void due(long got, long want) {
        asked++;
        if (got == want) return;
        wrong++;
        System.out.println(about + ": line " + callersLine() + " answered " + got + ", due is " + want);
    }

    private static int callersLine() {
        for (StackTraceElement frame : new Throwable().getStackTrace()) {
            if (!HELPERS.contains(frame.getClassName())) return frame.getLineNumber();
        }
        return 0;
    }

    /** Asks for one answer after the other, so that a row of calls stands in one line of a test. */
    void all(int[] got, int... want) {
        due(got.length, want.length);
        for (int i = 0; i < got.length && i < want.length; i++) due(got[i], want[i]);
    }

    static void feed(PeaceRing ring, String text) {
        byte[] bytes = text.getBytes(StandardCharsets.ISO_8859_1);
        for (int at = 0; at < bytes.length; at += 8) {
            int n = Math.min(8, bytes.length - at);
            long eight = 0;
            for (int i = 0; i < n; i++) eight |= (bytes[at + i] & 255L) << 8 * i;
            ring.feed(eight, n);
        }
    }

    static int read(PeaceRing ring, int charter, String text) {
        feed(ring, text);
        return ring.read(charter);
    }

    static void pass(PeaceRing ring, int hours) {
        for (int left = hours; left > 0; left -= 100) ring.hours(Math.min(left, 100));
    }

    void end() {
        System.out.println(asked + " answers asked, " + wrong + " not as due");
        if (wrong > 0) System.exit(1);
    }
}
