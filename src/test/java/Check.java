import java.nio.charset.StandardCharsets;

/** What the tests share: answers compared with those that are due, and texts put onto the tape. */
final class Check {
    private final String title;
    private int wrong = 0;
    private int asked = 0;

    Check(String title) {
        this.title = title;
    }

    void due(String what, int got, int want) {
        asked++;
        if (got != want) {
            wrong++;
            System.out.println(title + ": " + what + " answered " + got + ", due is " + want);
        }
    }

    void due(String what, boolean got, boolean want) {
        due(what, got ? 1 : 0, want ? 1 : 0);
    }

    void finish() {
        System.out.println(title + ": " + asked + " answers, " + wrong + " wrong");
        if (wrong != 0) {
            System.exit(1);
        }
    }

    /** The tape holds just this text then; it must be at most 800 bytes. */
    static void load(HangWatch x, byte[] bytes) {
        x.end(0);
        for (int i = 0; i < bytes.length; i += 20) {
            int[] five = new int[5];
            for (int k = 0; k < 20; k++) {
                int sign = i + k < bytes.length ? bytes[i + k] & 255 : ' ';
                five[k / 4] = five[k / 4] << 8 | sign;
            }
            x.feed(five[0], five[1], five[2], five[3], five[4]);
        }
        x.end(bytes.length);
    }

    static void load(HangWatch x, String text) {
        load(x, text.getBytes(StandardCharsets.ISO_8859_1));
    }

    static int tell(HangWatch x, String text) {
        load(x, text);
        return x.text();
    }

    static HangWatch made(String text) {
        HangWatch x = new HangWatch();
        if (tell(x, text) < 0) {
            throw new IllegalStateException("fault " + x.fault(0) + " at " + x.fault(1) + ": " + text);
        }
        return x;
    }

    /** Locks, pipes, messages and rests at once; it goes on for hundreds of ticks, with stalls of every kind. */
    static final String RICH = "window 3;grace 1;pipe 0 3;pipe 1 2;"
        + "worker put 0,put 0,send 1,send 1,lock 0,rest 20,free 0,again;"
        + "worker rest 4,await 0,get 0,rest 7,await 0,get 0,again;"
        + "worker lock 1,work 30,free 1,stop;"
        + "worker rest 6,get 0,put 1,put 1,lock 0,lock 1,put 1,rest 50;"
        + "worker stop;worker rest 9,lock 2,lock 2,lock 2;worker get 1,rest 40,again;";

    /** All that there is, as a text; what can be undone is left out. */
    static String all(HangWatch x) {
        StringBuilder all = new StringBuilder();
        for (int what = 0; what <= 13; what++) {
            all.append(what == 12 ? 0 : x.count(what)).append(' ');
        }
        for (int w = 0; w < 8; w++) {
            for (int what = 0; what <= 13; what++) {
                all.append(x.worker(w, what)).append(' ');
            }
            all.append(x.holder(w)).append(' ').append(x.pipe(w, false)).append(' ').append(x.pipe(w, true)).append(' ');
            all.append(x.waits(w)).append(' ').append(x.way(w, -1)).append(' ').append(x.ring(w)).append('\n');
            for (int k = 0; k < 12; k++) {
                all.append(x.step(w, k, false)).append(' ').append(x.step(w, k, true)).append(' ');
                all.append(x.messages(w, k)).append(' ');
            }
        }
        for (int k = 0; k < 30; k++) {
            for (int what = 0; what < 5; what++) {
                all.append(x.stall(k, what)).append(' ');
            }
        }
        return all.append(x.fault(0)).append(' ').append(x.fault(1)).toString();
    }

    static String times(String part, int n) {
        return part.repeat(n);
    }
}
