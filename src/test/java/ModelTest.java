import java.nio.charset.StandardCharsets;
import java.util.Random;

/** Random runs of calls: what the class answers is compared with what the plain model answers. The seeds are fixed. */
public final class ModelTest {
    private static final Check CHECK = new Check("ModelTest");
    private static final String[] SCRAPS = {";", ",", "worker", "work", "lock 0", "100", "0", "51", " ", "\n", "\t", "pipe",
        "window", "grace 51", "send 7", "await 0", "A", "\u00ff", "\0", "x", "worker stop;", ",stop", "pipe 4 1;", "pipe 0 0;"};

    private final Random random;
    private final HangWatch x = new HangWatch();
    private final PlainModel m = new PlainModel();
    private final String run;

    private ModelTest(long seed) {
        random = new Random(seed);
        run = "run " + seed + " ";
    }

    public static void main(String[] args) {
        int runs = args.length > 0 ? Integer.parseInt(args[0]) : 400;
        long first = args.length > 1 ? Long.parseLong(args[1]) : 0;
        for (long seed = first; seed < first + runs; seed++) {
            ModelTest test = new ModelTest(seed);
            test.all(1 + test.random.nextInt(6));
        }
        CHECK.finish();
    }

    private void all(int texts) {
        lookAtAll();
        for (int i = 0; i < texts; i++) {
            String text = text();
            boolean broken = random.nextInt(4) == 0;
            tell(broken ? spoil(text) : text);
            int acts = random.nextInt(12);
            for (int k = 0; k < acts; k++) {
                act();
                askOne(random.nextInt(9), random.nextInt(9));
                if (random.nextInt(3) == 0) {
                    lookAtAll();
                }
                ask();
            }
            lookAtAll();
        }
    }

    private void due(String what, int got, int want) {
        CHECK.due(run + what, got, want);
    }

    private void due(String what, boolean got, boolean want) {
        CHECK.due(run + what, got, want);
    }

    private int some(int... choices) {
        return choices[random.nextInt(choices.length)];
    }

    /** Steps by theme: 0 of all sorts, 1 locks, 2 pipes, 3 messages, 4 rests that go round. */
    private static final int[][] THEMES = {
        {0, 1, 2, 3, 4, 5, 6, 7, 8, 9, 10, 11, 12, 13, 14, 15},
        {0, 2, 2, 2, 5, 5, 13},
        {0, 7, 7, 9, 9, 13, 14},
        {0, 11, 11, 11, 12, 12, 13, 15},
        {13, 13, 13, 14, 2, 5, 9, 7}};

    private String step(int theme, int workers, int locks, int pipes) {
        int other = random.nextInt(workers);
        return switch (some(THEMES[theme])) {
            case 0, 1 -> "work " + some(1, 1, 2, 3, 5, 50);
            case 2, 3, 4 -> "lock " + random.nextInt(locks);
            case 5, 6 -> "free " + random.nextInt(locks);
            case 7, 8 -> "put " + random.nextInt(pipes);
            case 9, 10 -> "get " + random.nextInt(pipes);
            case 11 -> "send " + other;
            case 12 -> "await " + other;
            case 13 -> "rest " + some(1, 2, 3, 7, 12, 99);
            case 14 -> "again";
            default -> random.nextBoolean() ? "stop" : "again";
        };
    }

    private String text() {
        StringBuilder text = new StringBuilder();
        int workers = 1 + random.nextInt(8);
        int locks = 1 + random.nextInt(6);
        int pipes = 1 + random.nextInt(4);
        int theme = random.nextInt(THEMES.length);
        if (random.nextBoolean()) {
            text.append("window ").append(some(1, 1, 2, 3, 5, 50)).append(';');
        }
        if (random.nextBoolean()) {
            text.append("grace ").append(some(0, 0, 1, 2, 50)).append(";\n");
        }
        if (random.nextBoolean()) {
            text.append("pipe ").append(random.nextInt(pipes)).append(' ').append(some(1, 2, 3, 9)).append(';');
        }
        for (int w = 0; w < workers; w++) {
            text.append("worker ");
            int steps = 1 + random.nextInt(random.nextInt(3) == 0 ? 12 : 6);
            for (int k = 0; k < steps; k++) {
                String step = step(theme, workers, locks, pipes);
                boolean own = step.equals("send " + w) || step.equals("await " + w);
                boolean early = k + 1 < steps && (step.equals("stop") || step.equals("again")) && random.nextInt(4) > 0;
                text.append(k == 0 ? "" : ",").append(own || early ? "work 1" : step);
            }
            text.append(';');
        }
        return text.toString();
    }

    private String spoil(String text) {
        StringBuilder spoilt = new StringBuilder(text);
        int times = 1 + random.nextInt(2);
        for (int i = 0; i < times; i++) {
            int at = random.nextInt(spoilt.length() + 1);
            switch (random.nextInt(4)) {
                case 0 -> spoilt.insert(at, SCRAPS[random.nextInt(SCRAPS.length)]);
                case 1 -> spoilt.setLength(at);
                case 2 -> {
                    if (at < spoilt.length()) {
                        spoilt.deleteCharAt(at);
                    }
                }
                default -> {
                    int digit = spoilt.indexOf(" ", at);
                    if (digit >= 0) {
                        spoilt.insert(digit + 1, random.nextInt(10));
                    }
                }
            }
        }
        return spoilt.toString();
    }

    private void tell(String text) {
        byte[] bytes = text.substring(0, Math.min(800, text.length())).getBytes(StandardCharsets.ISO_8859_1);
        due("end", x.end(0), m.end(0));
        for (int i = 0; i < bytes.length; i += 20) {
            int[] five = new int[5];
            for (int k = 0; k < 20; k++) {
                five[k / 4] = five[k / 4] << 8 | (i + k < bytes.length ? bytes[i + k] & 255 : random.nextInt(256));
            }
            feed(five);
        }
        due("end " + bytes.length, x.end(bytes.length), m.end(bytes.length));
        due("text " + text, x.text(), m.text());
        due("fault of " + text, x.fault(0), m.fault(0));
        due("place of " + text, x.fault(1), m.fault(1));
    }

    private void feed(int... five) {
        due("feed", x.feed(five[0], five[1], five[2], five[3], five[4]), m.feed(five));
    }

    private int odd() {
        return some(-1, 0, 1, 2, 3, 4, 5, 6, 7, 8, 9, 12, 30, 31, 32, 63, 64, -2, Integer.MIN_VALUE, Integer.MAX_VALUE, 1 << 30);
    }

    private void act() {
        int w = random.nextInt(4) == 0 ? odd() : random.nextInt(8);
        int n = some(1, 1, 1, 2, 3, 5, 10, random.nextInt(12) == 0 ? 200 : 7, 0, 201);
        switch (random.nextInt(10)) {
            case 0, 1, 2 -> due("ticks " + n, x.ticks(n), m.ticks(n));
            case 3 -> due("watch", x.watch(), m.watch());
            case 4, 5 -> due("free " + w, x.free(w), m.free(w));
            case 6 -> {
                boolean grace = random.nextBoolean();
                int v = some(0, 1, 2, 3, 4, 6, 50, 51, -1);
                due("within " + v, x.within(grace, v), m.within(grace, v));
            }
            case 7 -> due("undo", x.undo(), m.undo());
            case 8 -> {
                int k = some(-1, 0, 1, 2, 3);
                if (random.nextInt(3) == 0) {
                    feed(random.nextInt(), 1, 2, 3, random.nextInt());
                }
                due("image " + k, x.image(k), m.image(k));
            }
            default -> {
                int k = some(-1, 0, 1, 2, 3);
                if (random.nextInt(3) == 0) {
                    due("again " + k, x.again(k), m.again(k));
                }
            }
        }
    }

    /** One call right behind an act, so that none can answer from what another one saw. */
    private void askOne(int which, int w) {
        switch (which) {
            case 0 -> due("first waits " + w, x.waits(w), m.waits(w));
            case 1 -> due("first way " + w, x.way(w, -1), m.way(w, -1));
            case 2 -> due("first ring " + w, x.ring(w), m.ring(w));
            case 3 -> due("first freed " + w, x.freed(w), m.freed(w));
            case 4 -> due("first fewest", x.fewest(true), m.fewest(true));
            case 5 -> due("first count", x.count(w), m.count(w));
            case 6 -> due("first worker " + w, x.worker(w, 10), m.worker(w, 10));
            case 7 -> due("first neighbour " + w, x.worker(w, 11), m.worker(w, 11));
            default -> due("first free " + w, x.free(w), m.free(w));
        }
    }

    private void ask() {
        int n = some(0, 1, 2, 5, 9, random.nextInt(20) == 0 ? 200 : 30, 201, -1);
        int what = random.nextInt(15) - 1;
        due("later " + n + " " + what, x.later(n, what), m.later(n, what));
        int window = some(0, 1, 2, 3, 4, 9, 50, 51);
        int shorter = some(0, 1, 3, 9, 25, 201);
        due("told " + shorter + " " + window, x.told(shorter, window), m.told(shorter, window));
        if (random.nextInt(10) == 0) {
            int w = random.nextInt(9);
            due("ends " + w, x.ends(w), m.ends(w));
        }
        int w = odd();
        int k = odd();
        due("odd worker", x.worker(w, k), m.worker(w, k));
        due("odd step", x.step(w, k, k > 3), m.step(w, k, k > 3));
        due("odd way", x.way(w, k), m.way(w, k));
        due("odd stall", x.stall(w, k), m.stall(w, k));
        due("odd messages", x.messages(w, k), m.messages(w, k));
        due("odd fault", x.fault(k), m.fault(k));
        due("odd end", x.end(k), m.end(k));
    }

    private void lookAtAll() {
        for (int what = -1; what <= 14; what++) {
            due("count " + what, x.count(what), m.count(what));
        }
        for (int w = -1; w <= 8; w++) {
            for (int what = -1; what <= 14; what++) {
                due("worker " + w + " " + what, x.worker(w, what), m.worker(w, what));
            }
            due("waits " + w, x.waits(w), m.waits(w));
            due("ring " + w, x.ring(w), m.ring(w));
            due("freed " + w, x.freed(w), m.freed(w));
            due("holder " + w, x.holder(w), m.holder(w));
            due("lies " + w, x.pipe(w, false), m.pipe(w, false));
            due("room " + w, x.pipe(w, true), m.pipe(w, true));
            for (int k = -1; k <= 12; k++) {
                due("way " + w + " " + k, x.way(w, k), m.way(w, k));
                due("step " + w + " " + k, x.step(w, k, false), m.step(w, k, false));
                due("number " + w + " " + k, x.step(w, k, true), m.step(w, k, true));
                due("messages " + w + " " + k, x.messages(w, k), m.messages(w, k));
            }
        }
        for (int k = -1; k <= 30; k++) {
            for (int what = -1; what <= 5; what++) {
                due("stall " + k + " " + what, x.stall(k, what), m.stall(k, what));
            }
        }
        due("fewest", x.fewest(false), m.fewest(false));
        due("fewest set", x.fewest(true), m.fewest(true));
        due("fault", x.fault(0), m.fault(0));
        due("place", x.fault(1), m.fault(1));
    }
}
