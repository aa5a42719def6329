import java.nio.charset.StandardCharsets;

/** What the tests share: answers compared with those that are due, and texts put onto the tape. */
final class Check {
    private final String title;
    private int wrong = 0;
    private int asked = 0;

    Check(String title) {
        this.title = title;
    }

    void due(String what, int got, int want) {
        asked++;
        if (got != want) {
            wrong++;
            System.out.println(title + ": " + what + " answered " + got + ", due is " + want);
        }
    }

    void due(String what, boolean got, boolean want) {
        due(what, got ? 1 : 0, want ? 1 : 0);
    }

    void finish() {
        System.out.println(title + ": " + asked + " answers, " + wrong + " wrong");
        if (wrong != 0) {
            System.exit(1);
        }
    }

    /** The tape holds just this text then; it must be at most 800 bytes. */
    static void load(HangWatch x, byte[] bytes) {
        x.end(0);
        for (int i = 0; i < bytes.length; i += 20) {
            int[] five = new int[5];
            for (int k = 0; k < 20; k++) {
                int sign = i + k < bytes.length ? bytes[i + k] & 255 : ' ';
                five[k / 4] = five[k / 4] << 8 | sign;
            }
            x.feed(five[0], five[1], five[2], five[3], five[4]);
        }
        x.end(bytes.length);
    }

    static void load(HangWatch x, String text) {
        load(x, text.getBytes(StandardCharsets.ISO_8859_1));
    }

    static int tell(HangWatch x, String text) {
        load(x, text);
        return x.text();
    }

    static HangWatch made(String text) {
        HangWatch x = new HangWatch();
        if (tell(x, text) < 0) {
            throw new IllegalStateException("fault " + x.fault(0) + " at " + x.fault(1) + ": " + text);
        }
        return x;
    }

    static String times(String part, int n) {
        return part.repeat(n);
    }
}
