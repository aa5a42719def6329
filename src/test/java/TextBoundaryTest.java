/** Promises 1 to 5: a new object, the tape, texts, faults; word by word, at their boundaries. */
public final class TextBoundaryTest {
    private static final Sentences DOC = new Sentences("TextBoundaryTest");
    private static final int[] FAR = {Integer.MIN_VALUE, Integer.MIN_VALUE + 1, -801, -2, -1};

    public static void main(String[] args) {
        newObject();
        feed();
        end();
        text();
        textFails();
        fault();
        DOC.finish("Promise 1", "Promise 2", "Promise 3", "Promise 4", "Promise 5");
    }

    private static void newObject() {
        DOC.says("Promise 1", "No WORKERS", () -> {
            HangWatch x = new HangWatch();
            DOC.due("count(0)", x.count(0), 0);
            for (int what = 0; what <= 13; what++) {
                DOC.due("worker(0, " + what + ")", x.worker(0, what), -1);
            }
            DOC.due("step", x.step(0, 0, false), -1);
            DOC.due("messages", x.messages(0, 0), -1);
            DOC.due("waits", x.waits(0), -1);
            DOC.due("way", x.way(0, -1), -1);
            DOC.due("ring", x.ring(0), -1);
            DOC.due("freed", x.freed(0), -1);
            DOC.due("ends", x.ends(0), -1);
            DOC.due("free", x.free(0), false);
            for (int what : new int[] {1, 2, 5, 6, 7, 8, 9, 10, 11, 12, 13}) {
                DOC.due("count(" + what + ")", x.count(what), 0);
            }
            DOC.due("nobody holds", x.holder(0), -1);
            DOC.due("nothing lies", x.pipe(0, false), 0);
            DOC.due("room without", x.pipe(0, true), 1);
        });
        DOC.says("Promise 1", "WINDOW and GRACE as at first", () -> {
            DOC.due("window", new HangWatch().count(3), 4);
            DOC.due("grace", new HangWatch().count(4), 6);
        });
        DOC.says("Promise 1", "no images", () -> {
            HangWatch x = new HangWatch();
            for (int k = -1; k <= 3; k++) {
                DOC.due("again(" + k + ")", x.again(k), false);
            }
        });
    }

    private static void feed() {
        DOC.says("Promise 2", "The tape: twenty bytes come behind it", () -> {
            HangWatch x = new HangWatch();
            // "worker stop,"
            x.feed(0x776f726b, 0x65722073, 0x746f702c, 0, 0);
            x.end(12);
            // "stop;", which stands behind the twelve bytes that were left
            x.feed(0x73746f70, 0x3b202020, 0x20202020, 0x20202020, 0x20202020);
            DOC.due("32", x.count(13), 32);
            DOC.due("a text of both", x.text(), 1);
            DOC.due("two steps", x.worker(0, 13), 2);
        });
        DOC.says("Promise 2", "of each number the highest first", () -> {
            for (int place = 0; place < 20; place++) {
                HangWatch x = new HangWatch();
                int[] five = {0x20202020, 0x20202020, 0x20202020, 0x20202020, 0x20202020};
                five[place / 4] ^= 0xa0 << 24 - place % 4 * 8;
                x.feed(five[0], five[1], five[2], five[3], five[4]);
                x.text();
                DOC.due("a byte that is no blank, 128, at " + place, x.fault(1), place);
            }
        });
        DOC.says("Promise 2", "how many it has", () -> {
            HangWatch x = new HangWatch();
            for (int i = 1; i <= 40; i++) {
                DOC.due("feed " + i, x.feed(-1, 0, Integer.MIN_VALUE, Integer.MAX_VALUE, 1), 20 * i);
            }
            x.end(3);
            DOC.due("behind three", x.feed(0, 0, 0, 0, 0), 23);
        });
        DOC.says("Promise 2", "NONE, and nothing comes, if there would be more than 800.", () -> {
            HangWatch x = full("worker stop;");
            for (int n = 800; n >= 781; n--) {
                x.end(n);
                DOC.due("feed behind " + n, x.feed(0, 0, 0, 0, 0), -1);
                DOC.due("bytes", x.count(13), n);
            }
            x.end(780);
            DOC.due("feed behind 780", x.feed(0x20202020, 0x20202020, 0x20202020, 0x20202020, 0x20202020), 800);
            DOC.due("no byte came before", x.text(), 1);
        });
    }

    /** A tape of 800 bytes, of blanks behind the text. */
    private static HangWatch full(String text) {
        HangWatch x = new HangWatch();
        Check.load(x, text + " ".repeat(800 - text.length()));
        return x;
    }

    private static void end() {
        DOC.says("Promise 3", "The tape has its first n bytes alone: n.", () -> {
            HangWatch x = full("worker stop;worker stop;");
            DOC.due("end(800)", x.end(800), 800);
            DOC.due("800", x.count(13), 800);
            DOC.due("end(12)", x.end(12), 12);
            DOC.due("12", x.count(13), 12);
            DOC.due("the first", x.text(), 1);
            DOC.due("end(0) of none", x.end(0), 0);
            x.feed(0, 0, 0, 0, 0);
            DOC.due("end(0)", x.end(0), 0);
            DOC.due("0", x.count(13), 0);
            DOC.due("an empty text", x.text(), 0);
        });
        DOC.says("Promise 3", "NONE if it has not so many", () -> {
            HangWatch x = new HangWatch();
            DOC.due("end(1) of none", x.end(1), -1);
            x.feed(0, 0, 0, 0, 0);
            DOC.due("end(21) of 20", x.end(21), -1);
            DOC.due("end(800) of 20", x.end(800), -1);
            DOC.due("end(most)", x.end(Integer.MAX_VALUE), -1);
            DOC.due("20 stay", x.count(13), 20);
            x.end(7);
            DOC.due("what was cut off is gone", x.end(8), -1);
            DOC.due("801 of 800", full("").end(801), -1);
        });
        DOC.says("Promise 3", "or n is below 0.", () -> {
            HangWatch x = new HangWatch();
            x.feed(0, 0, 0, 0, 0);
            for (int n : FAR) {
                DOC.due("end(" + n + ")", x.end(n), -1);
            }
            DOC.due("20 stay", x.count(13), 20);
        });
    }

    private static void text() {
        DOC.says("Promise 4", "The tape is taken (and is empty then) as a TEXT", () -> {
            HangWatch x = new HangWatch();
            Check.load(x, "worker stop;");
            DOC.due("taken", x.text(), 1);
            DOC.due("empty", x.count(13), 0);
            DOC.due("an empty text now", x.text(), 0);
            Check.load(x, "wrong");
            x.text();
            DOC.due("empty behind a fault, too", x.count(13), 0);
        });
        DOC.says("Promise 4", "all is as it tells", () -> {
            HangWatch x = Check.made("window 9;grace 9;pipe 0 9;worker lock 0,put 0,put 0,send 1,rest 9;worker rest 9;");
            x.ticks(5);
            Check.tell(x, "window 8;pipe 1 7;worker lock 1,rest 3;worker stop;worker stop;");
            DOC.due("workers", x.count(0), 3);
            DOC.due("window", x.count(3), 8);
            DOC.due("grace, not told", x.count(4), 6);
            DOC.due("room 0, not told", x.pipe(0, true), 1);
            DOC.due("room 1", x.pipe(1, true), 7);
            DOC.due("pipe 0 is empty", x.pipe(0, false), 0);
            DOC.due("lock 0 is free", x.holder(0), -1);
            DOC.due("no message", x.messages(1, 0), 0);
            for (int w = 0; w < 3; w++) {
                DOC.due("place of " + w, x.worker(w, 0), 0);
                DOC.due("ticks of " + w, x.worker(w, 3), 0);
                DOC.due("quiet of " + w, x.worker(w, 4), 0);
                DOC.due("steps of " + w, x.worker(w, 5), 0);
            }
            DOC.due("its own program", x.worker(0, 13), 2);
            x.ticks(9);
            DOC.due("all have ended", x.count(1), 3);
            Check.tell(x, "worker rest 9;worker rest 9;worker rest 9;");
            DOC.due("none has ended", x.count(1), 0);
            DOC.due("a neighbour that had", x.worker(0, 11), 1);
            Check.tell(x, "worker lock 1,rest 3;worker stop;worker stop;");
            DOC.due("no step of the old one", x.step(0, 2, false), -1);
            x.text();
            DOC.due("an empty text: no workers", x.count(0), 0);
            Check.tell(x, Check.RICH);
            x.ticks(50);
            Check.tell(x, Check.RICH);
            DOC.due("as on a new object", Check.all(x).equals(Check.all(Check.made(Check.RICH))), true);
            x.text();
            DOC.due("window", x.count(3), 4);
        });
        DOC.says("Promise 4", "at TICK 0, no STALLS (nothing can be UNDONE)", () -> {
            HangWatch x = Check.made("window 1;worker get 0;");
            x.ticks(3);
            x.within(true, 1);
            DOC.due("a stall", x.count(10), 1);
            Check.tell(x, "window 1;worker get 0;");
            DOC.due("tick", x.count(2), 0);
            DOC.due("stalls kept", x.count(10), 0);
            DOC.due("stalls told", x.count(11), 0);
            DOC.due("no first one", x.stall(0, 0), -1);
            DOC.due("acts", x.count(12), 0);
            DOC.due("undo", x.undo(), -1);
            DOC.due("told anew", x.ticks(1), 1);
        });
        DOC.says("Promise 4", "how many WORKERS.", () -> {
            HangWatch x = new HangWatch();
            for (int many = 0; many <= 8; many++) {
                DOC.due("of " + many, Check.tell(x, "window 9;" + Check.times("worker stop;", many)), many);
            }
        });
    }

    private static void textFails() {
        DOC.says("Promise 4", "NONE: a FAULT (all else stays).", () -> {
            String[] wrong = {"wrong", "window 9;grace 9;pipe 0 9;worker stop;window 0;", "worker " + Check.times("stop,", 12) + "stop;",
                Check.times("worker stop;", 9), "worker send 0;"};
            for (int i = 0; i < wrong.length; i++) {
                HangWatch x = Check.made("window 1;grace 2;pipe 0 3;worker put 0,lock 0,lock 0;worker rest 9;");
                x.ticks(2);
                x.ticks(2);
                x.image(1);
                DOC.due("text " + wrong[i], Check.tell(x, wrong[i]), -1);
                DOC.due("its fault", x.fault(0), i + 1);
                int[] counts = {2, 0, 4, 1, 2, 1, 1, 1, 0, 1, 2, 2, 2, 0};
                for (int what = 0; what < counts.length; what++) {
                    DOC.due("count(" + what + ")", x.count(what), counts[what]);
                }
                DOC.due("room", x.pipe(0, true), 3);
                DOC.due("pipe", x.pipe(0, false), 1);
                DOC.due("lock", x.holder(0), 0);
                DOC.due("program", x.worker(0, 13), 3);
                DOC.due("what was told is told", x.ticks(1), 0);
                x.undo();
                DOC.due("undo", x.undo(), 1);
                DOC.due("image", x.again(1), true);
            }
        });
    }

    private static void fault() {
        DOC.says("Promise 5", "Of the latest text(), what 0: the FAULT, 0 without", () -> {
            HangWatch x = new HangWatch();
            DOC.due("no text yet", x.fault(0), 0);
            Check.tell(x, "wrong");
            DOC.due("a fault", x.fault(0), 1);
            Check.tell(x, "window 0;");
            DOC.due("the latest", x.fault(0), 2);
            x.feed(0, 0, 0, 0, 0);
            x.end(0);
            x.ticks(1);
            x.undo();
            DOC.due("stays till the next text", x.fault(0), 2);
            x.text();
            DOC.due("without", x.fault(0), 0);
        });
        DOC.says("Promise 5", "1: its place, NONE without.", () -> {
            HangWatch x = new HangWatch();
            DOC.due("no text yet", x.fault(1), -1);
            Check.tell(x, "wrong");
            DOC.due("place 0", x.fault(1), 0);
            Check.tell(x, "window 0;");
            DOC.due("place 7", x.fault(1), 7);
            x.ticks(1);
            DOC.due("stays", x.fault(1), 7);
            x.text();
            DOC.due("without", x.fault(1), -1);
        });
        DOC.says("Promise 5", "NONE for another what.", () -> {
            HangWatch x = new HangWatch();
            Check.tell(x, "wrong");
            for (int what : new int[] {Integer.MIN_VALUE, -1, 2, 3, 5, 32, Integer.MAX_VALUE}) {
                DOC.due("fault(" + what + ")", x.fault(what), -1);
            }
        });
    }
}
