/** Promises 6 to 10: ticks, watch, free, within, undo; word by word, at their boundaries. */
public final class ActsBoundaryTest {
    private static final Sentences DOC = new Sentences("ActsBoundaryTest");

    public static void main(String[] args) {
        ticks();
        watch();
        watchNone();
        free();
        within();
        undo();
        DOC.finish("Promise 6", "Promise 7", "Promise 8", "Promise 9", "Promise 10");
    }

    private static void ticks() {
        DOC.says("Promise 6", "So many TICKS, 1 to 200", () -> {
            HangWatch x = Check.made("worker work 1,again;");
            x.ticks(1);
            DOC.due("behind 1", x.count(2), 1);
            x.ticks(200);
            DOC.due("behind 200 more", x.count(2), 201);
            DOC.due("steps done", x.worker(0, 5), 201);
            DOC.due("two acts", x.count(12), 2);
            HangWatch y = new HangWatch();
            DOC.due("without workers", y.ticks(7), 0);
            DOC.due("they pass, too", y.count(2), 7);
            DOC.due("an act, too", y.count(12), 1);
        });
        DOC.says("Promise 6", "how many STALLS were told.", () -> {
            HangWatch x = Check.made("window 1;grace 0;" + Check.times("worker rest 2,again;", 8));
            DOC.due("all eight", x.ticks(1), 8);
            DOC.due("none", x.ticks(1), 0);
            DOC.due("more than are kept, those of these ticks alone", x.ticks(200), 8 * 67);
        });
        DOC.says("Promise 6", "NONE: another number.", () -> {
            HangWatch x = Check.made("window 1;worker get 0;");
            for (int n : new int[] {Integer.MIN_VALUE, -200, -1, 0, 201, 256, Integer.MAX_VALUE}) {
                DOC.due("ticks(" + n + ")", x.ticks(n), -1);
            }
            DOC.due("no tick", x.count(2), 0);
            DOC.due("no stall", x.count(11), 0);
            DOC.due("no act", x.count(12), 0);
        });
    }

    private static void watch() {
        DOC.says("Promise 7", "TICKS, till a STALL is told", () -> {
            HangWatch x = Check.made("window 1;grace 0;worker rest 2,again;worker work 3,get 0;");
            DOC.due("at once", x.watch(), 1);
            DOC.due("till the next", x.watch(), 3);
            DOC.due("both in one tick", x.count(11), 3);
            DOC.due("tick", x.count(2), 4);
        });
        DOC.says("Promise 7", "200 at most", () -> {
            HangWatch x = stallIn(200);
            DOC.due("a stall in the 200th", x.watch(), 200);
            DOC.due("told", x.count(11), 1);
            HangWatch y = stallIn(201);
            DOC.due("none in 200", y.watch(), 200);
            DOC.due("none told", y.count(11), 0);
            DOC.due("tick", y.count(2), 200);
            DOC.due("the next", y.watch(), 1);
            DOC.due("told then", y.count(11), 1);
            HangWatch z = Check.made("worker work 5;");
            DOC.due("no stall ever, ended on the way", z.watch(), 200);
        });
        DOC.says("Promise 7", "how many there were (one ACT).", () -> {
            HangWatch x = Check.made("worker get 0;");
            DOC.due("four", x.watch(), 4);
            DOC.due("one act", x.count(12), 1);
            DOC.due("undone at once", x.undo(), 0);
            DOC.due("all four", x.count(2), 0);
            DOC.due("the stall, too", x.count(11), 0);
        });
    }

    /** The one stall is told in this tick: two waits behind the work, 150 ticks of it and the rest. */
    private static HangWatch stallIn(int tick) {
        return Check.made("window 1;worker work 50,work 50,work 50,work " + (tick - 152) + ",lock 0,lock 0;");
    }

    private static void watchNone() {
        DOC.says("Promise 7", "NONE: all have ENDED (or there are no WORKERS).", () -> {
            HangWatch x = Check.made("worker stop;worker work 2;");
            x.ticks(1);
            DOC.due("one has not", x.watch(), 200);
            DOC.due("all have", x.watch(), -1);
            DOC.due("no tick", x.count(2), 201);
            DOC.due("no act", x.count(12), 2);
            HangWatch y = new HangWatch();
            DOC.due("no workers", y.watch(), -1);
            DOC.due("no tick", y.count(2), 0);
            DOC.due("no act", y.count(12), 0);
        });
    }

    private static void free() {
        DOC.says("Promise 8", "LET GO: true.", () -> {
            HangWatch x = Check.made("worker get 0,rest 9;" + Check.times("worker rest 9;", 6) + "worker get 0,rest 9;");
            DOC.due("the first", x.free(0), true);
            DOC.due("the last", x.free(7), true);
            DOC.due("gone on", x.worker(0, 0) + x.worker(7, 0), 2);
            DOC.due("two acts", x.count(12), 2);
        });
        DOC.says("Promise 8", "false: there is none such", () -> {
            HangWatch x = Check.made("worker get 0;worker get 0;");
            for (int w : new int[] {Integer.MIN_VALUE, -32, -1, 2, 7, 8, 32, 33, Integer.MAX_VALUE}) {
                DOC.due("free(" + w + ")", x.free(w), false);
            }
            DOC.due("no act", x.count(12), 0);
            DOC.due("both still held up", x.count(5), 2);
        });
        DOC.says("Promise 8", "it is not HELD UP.", () -> {
            String[] going = {"work 9", "lock 0", "free 0", "put 0", "send 1", "rest 9", "again", "stop"};
            for (String step : going) {
                HangWatch x = Check.made("worker " + step + ";worker rest 9;");
                DOC.due("at " + step, x.free(0), false);
                DOC.due("still there", x.worker(0, 0), 0);
                DOC.due("no act", x.count(12), 0);
            }
            HangWatch y = Check.made("worker get 0;");
            y.free(0);
            DOC.due("ended by it", y.free(0), false);
            DOC.due("one act", y.count(12), 1);
        });
    }

    private static void within() {
        DOC.says("Promise 9", "WINDOW, or (grace) GRACE is another number: true.", () -> {
            HangWatch x = Check.made("worker rest 9;");
            int[] windows = {1, 50, 5};
            for (int v : windows) {
                DOC.due("within(false, " + v + ")", x.within(false, v), true);
                DOC.due("window", x.count(3), v);
                DOC.due("grace stays", x.count(4), 6);
            }
            int[] graces = {0, 50, 7};
            for (int v : graces) {
                DOC.due("within(true, " + v + ")", x.within(true, v), true);
                DOC.due("grace", x.count(4), v);
                DOC.due("window stays", x.count(3), 5);
            }
            DOC.due("six acts", x.count(12), 6);
        });
        DOC.says("Promise 9", "false: it is that", () -> {
            HangWatch x = Check.made("worker rest 9;");
            DOC.due("window 4", x.within(false, 4), false);
            DOC.due("grace 6", x.within(true, 6), false);
            DOC.due("no act", x.count(12), 0);
            DOC.due("window 6, as grace is", x.within(false, 6), true);
            DOC.due("grace 4, as window was", x.within(true, 4), true);
            DOC.due("window 6 again", x.within(false, 6), false);
            DOC.due("two acts", x.count(12), 2);
        });
        DOC.says("Promise 9", "it can't be.", () -> {
            HangWatch x = Check.made("worker rest 9;");
            for (int v : new int[] {Integer.MIN_VALUE, -1, 51, 99, Integer.MAX_VALUE}) {
                DOC.due("window " + v, x.within(false, v), false);
                DOC.due("grace " + v, x.within(true, v), false);
            }
            DOC.due("window 0", x.within(false, 0), false);
            DOC.due("window", x.count(3), 4);
            DOC.due("grace", x.count(4), 6);
            DOC.due("no act", x.count(12), 0);
        });
    }

    private static void undo() {
        DOC.says("Promise 10", "The latest ACT is UNDONE (STALLS, too)", () -> {
            HangWatch x = Check.made(Check.RICH);
            for (int tick = 0; tick < 60; tick++) {
                String before = Check.all(x);
                x.ticks(1);
                backTo(x, before, "one tick");
                x.ticks(50);
                backTo(x, before, "fifty ticks");
                x.watch();
                backTo(x, before, "watch");
                x.within(false, 1);
                backTo(x, before, "window");
                x.within(true, 0);
                backTo(x, before, "grace");
                for (int w = 0; w < 8; w++) {
                    if (x.free(w)) {
                        backTo(x, before, "free");
                    }
                }
                x.ticks(1);
            }
            // What was told and is undone is told anew; the kept ones that made way for later ones come back.
            HangWatch y = Check.made("window 1;grace 0;worker rest 2,again;");
            y.ticks(100);
            String before = Check.all(y);
            DOC.due("told", y.ticks(100), 33);
            backTo(y, before, "the kept ones");
            DOC.due("told anew", y.ticks(100), 33);
        });
        DOC.says("Promise 10", "how many more can be.", () -> {
            HangWatch x = Check.made("worker rest 99;");
            for (int i = 0; i < 20; i++) {
                x.ticks(1);
            }
            for (int more = 7; more >= 0; more--) {
                DOC.due("undo", x.undo(), more);
                DOC.due("acts", x.count(12), more);
            }
            DOC.due("tick", x.count(2), 12);
            x.ticks(1);
            x.ticks(1);
            DOC.due("one of two", x.undo(), 1);
        });
        DOC.says("Promise 10", "NONE: none can.", () -> {
            HangWatch x = new HangWatch();
            DOC.due("a new object", x.undo(), -1);
            Check.tell(x, "worker rest 99;");
            DOC.due("a text is no act", x.undo(), -1);
            x.ticks(1);
            x.undo();
            DOC.due("all are undone", x.undo(), -1);
            DOC.due("tick", x.count(2), 0);
            x.ticks(0);
            x.free(0);
            x.within(false, 4);
            DOC.due("a refused call is no act", x.undo(), -1);
            x.ticks(1);
            x.image(0);
            x.again(0);
            DOC.due("behind again", x.undo(), -1);
        });
    }

    private static void backTo(HangWatch x, String before, String act) {
        DOC.due(act + " changes something", Check.all(x).equals(before), false);
        x.undo();
        DOC.due(act + " is undone", Check.all(x).equals(before), true);
    }
}
