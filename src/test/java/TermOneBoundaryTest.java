/** Term 1: what there is at most, the STEPS, a TICK, BEATS; word by word, at its boundaries. */
public final class TermOneBoundaryTest {
    private static final Sentences DOC = new Sentences("TermOneBoundaryTest");
    private static final String TERM = "Term 1";

    public static void main(String[] args) {
        lifetime();
        limits();
        stepsWithTicks();
        stepsWithout();
        ticks();
        locks();
        pipes();
        mails();
        beats();
        DOC.finish(TERM, "Constants");
    }

    private static void lifetime() {
        DOC.says("Constants", "`NONE = -1`: There is none.", () -> DOC.due("NONE", HangWatch.NONE, -1));
        DOC.says("What it is", "An object is used for at most 512 calls after it has been made", () -> {
            HangWatch x = new HangWatch();
            x.feed(0x776f726b, 0x65722077, 0x6f726b20, 0x312c6167, 0x61696e3b);
            x.text();
            for (int call = 3; call <= 511; call++) {
                x.ticks(200);
            }
            DOC.due("the 512th call", x.count(2), 509 * 200);
        });
    }

    private static void limits() {
        DOC.says(TERM, "WORKERS, at most 8", () -> {
            DOC.due("8 workers", Check.tell(new HangWatch(), Check.times("worker stop;", 8)), 8);
            DOC.due("9 workers", Check.tell(new HangWatch(), Check.times("worker stop;", 9)), -1);
        });
        DOC.says(TERM, "numbered from 0 on", () -> {
            HangWatch x = Check.made("worker stop;worker stop,stop;worker stop,stop,stop;");
            int[] want = {-1, 1, 2, 3, -1};
            for (int w = -1; w <= 3; w++) {
                DOC.due("steps of worker " + w, x.worker(w, 13), want[w + 1]);
            }
        });
        DOC.says(TERM, "each with a PROGRAM of 1 to 12 STEPS", () -> {
            DOC.fault("worker ;", 1, 7);
            DOC.due("one step", Check.made("worker stop;").worker(0, 13), 1);
            DOC.due("12 steps", Check.made("worker " + Check.times("stop,", 11) + "stop;").worker(0, 13), 12);
            DOC.fault("worker " + Check.times("stop,", 12) + "stop;", 3, 67);
            HangWatch x = Check.made(Check.times("worker " + Check.times("put 3,", 11) + "put 3;", 8));
            for (int w = 0; w < 8; w++) {
                DOC.due("12 steps of each of 8", x.worker(w, 13), 12);
                DOC.due("its last", x.step(w, 11, false), 3);
            }
        });
        DOC.says(TERM, "LOCKS 0 to 5", () -> {
            HangWatch x = Check.made("worker lock 0,lock 1,lock 2,lock 3,lock 4,lock 5;");
            x.ticks(6);
            int[] want = {-1, 0, 0, 0, 0, 0, 0, -1};
            for (int lock = -1; lock <= 6; lock++) {
                DOC.due("lock " + lock, x.holder(lock), want[lock + 1]);
            }
            DOC.fault("worker lock 6;", 2, 12);
            DOC.fault("worker free 6;", 2, 12);
        });
        DOC.says(TERM, "PIPES 0 to 3", () -> {
            HangWatch x = Check.made("worker put 0,put 1,put 2,put 3;");
            x.ticks(4);
            int[] want = {-1, 1, 1, 1, 1, -1};
            for (int pipe = -1; pipe <= 4; pipe++) {
                DOC.due("pipe " + pipe, x.pipe(pipe, false), want[pipe + 1]);
            }
            DOC.fault("worker put 4;", 2, 11);
            DOC.fault("worker get 4;", 2, 11);
            DOC.fault("pipe 4 1;", 2, 5);
        });
        DOC.says(TERM, "each with ROOM 1 to 9 (1 without)", () -> {
            DOC.due("room 9", Check.made("pipe 3 9;").pipe(3, true), 9);
            DOC.due("room 1", Check.made("pipe 3 1;").pipe(3, true), 1);
            DOC.fault("pipe 3 0;", 2, 7);
            DOC.fault("pipe 3 10;", 2, 7);
            HangWatch x = Check.made("pipe 2 9;");
            for (int pipe = 0; pipe < 4; pipe++) {
                DOC.due("room " + pipe, x.pipe(pipe, true), pipe == 2 ? 9 : 1);
            }
            Check.tell(x, "worker stop;");
            DOC.due("without, in the next text", x.pipe(2, true), 1);
        });
        DOC.says(TERM, "WINDOW, 1 to 50 (4 at first)", () -> {
            DOC.due("a new object", new HangWatch().count(3), 4);
            DOC.due("a text without", Check.made("worker stop;").count(3), 4);
            DOC.due("1", Check.made("window 1;").count(3), 1);
            DOC.due("50", Check.made("window 50;").count(3), 50);
            HangWatch x = Check.made("window 9;");
            Check.tell(x, "worker stop;");
            DOC.due("without, in the next text", x.count(3), 4);
            DOC.fault("window 0;", 2, 7);
            DOC.fault("window 51;", 2, 7);
        });
        DOC.says(TERM, "GRACE, 0 to 50 (6)", () -> {
            DOC.due("a new object", new HangWatch().count(4), 6);
            DOC.due("a text without", Check.made("worker stop;").count(4), 6);
            DOC.due("0", Check.made("grace 0;").count(4), 0);
            DOC.due("50", Check.made("grace 50;").count(4), 50);
            HangWatch x = Check.made("grace 9;");
            Check.tell(x, "worker stop;");
            DOC.due("without, in the next text", x.count(4), 6);
            DOC.fault("grace 51;", 2, 6);
        });
    }

    private static void stepsWithTicks() {
        DOC.says(TERM, "STEPS: 0 WORK n (n ticks, 1 to 50)", () -> {
            lasts("work", 0, 1);
            lasts("work", 0, 2);
            lasts("work", 0, 50);
            DOC.fault("worker work 0;", 2, 12);
            DOC.fault("worker work 51;", 2, 12);
        });
        DOC.says(TERM, "7 REST n (n ticks at a device, 1 to 99)", () -> {
            lasts("rest", 7, 1);
            lasts("rest", 7, 2);
            lasts("rest", 7, 99);
            DOC.fault("worker rest 0;", 2, 12);
            DOC.fault("worker rest 100;", 1, 12);
        });
        DOC.says(TERM, "WORK, REST: one of its ticks; behind the last one it is done.", () -> {
            HangWatch x = Check.made("worker work 3,stop;worker rest 3,stop;");
            int[] ticked = {0, 1, 2, 0};
            for (int tick = 0; tick <= 3; tick++) {
                for (int w = 0; w < 2; w++) {
                    DOC.due("ticks done of " + w + " at " + tick, x.worker(w, 3), ticked[tick]);
                    DOC.due("place of " + w + " at " + tick, x.worker(w, 0), tick == 3 ? 1 : 0);
                }
                x.ticks(1);
            }
        });
    }

    /** A step of n ticks is the worker's one till behind the n-th. */
    private static void lasts(String word, int kind, int n) {
        HangWatch x = Check.made("worker " + word + " " + n + ",stop;");
        DOC.due(word + " is " + kind, x.step(0, 0, false), kind);
        DOC.due("its number", x.step(0, 0, true), n);
        if (n > 1) {
            x.ticks(n - 1);
        }
        DOC.due(word + " " + n + " ahead of its last tick", x.worker(0, 0), 0);
        x.ticks(1);
        DOC.due(word + " " + n + " behind its last tick", x.worker(0, 0), 1);
    }

    private static void stepsWithout() {
        String middle = "1 LOCK a LOCK, 2 FREE a LOCK, 3 PUT into a PIPE, 4 GET from a PIPE, 5 SEND to a WORKER, 6 AWAIT a WORKER";
        DOC.says(TERM, middle, () -> {
            HangWatch x = Check.made("worker stop;worker lock 5,free 4,put 3,get 2,send 2,await 0;worker stop;");
            int[] numbers = {5, 4, 3, 2, 2, 0};
            for (int k = 0; k < 6; k++) {
                DOC.due("kind at " + k, x.step(1, k, false), k + 1);
                DOC.due("number at " + k, x.step(1, k, true), numbers[k]);
            }
        });
        DOC.says(TERM, "8 AGAIN (on with its first STEP)", () -> {
            HangWatch x = Check.made("worker work 1,work 1,again,stop;worker again;");
            DOC.due("it is 8", x.step(0, 2, false), 8);
            x.ticks(3);
            DOC.due("back at the first", x.worker(0, 0), 0);
            x.ticks(197);
            DOC.due("round and round", x.worker(0, 0), 200 % 3);
            DOC.due("the first itself", x.worker(1, 0), 0);
            DOC.due("is never the end", x.count(1), 0);
        });
        DOC.says(TERM, "9 STOP (it ENDS)", () -> {
            HangWatch x = Check.made("worker stop,work 9;worker work 9;");
            DOC.due("it is 9", x.step(0, 0, false), 9);
            DOC.due("not ahead of it", x.count(1), 0);
            x.ticks(1);
            DOC.due("it ended", x.worker(0, 0), -1);
            DOC.due("alone", x.count(1), 1);
            x.ticks(3);
            DOC.due("for good", x.worker(0, 5), 1);
        });
        DOC.says(TERM, "Behind its last STEP a WORKER ENDS, too.", () -> {
            String[] last = {"work 1", "lock 0", "free 0", "put 0", "send 1", "rest 1"};
            for (String step : last) {
                HangWatch x = Check.made("worker " + step + ";worker rest 9;");
                DOC.due("ahead of " + step, x.worker(0, 0), 0);
                x.ticks(1);
                DOC.due("behind " + step, x.worker(0, 0), -1);
            }
            HangWatch x = Check.made("worker put 0,send 1;worker get 0;worker rest 9;");
            x.ticks(1);
            DOC.due("behind get", x.worker(1, 0), -1);
            HangWatch y = Check.made("worker send 1;worker await 0;");
            y.ticks(1);
            DOC.due("behind await", y.worker(1, 0), -1);
            HangWatch z = Check.made("worker " + Check.times("work 1,", 11) + "work 1;");
            z.ticks(11);
            DOC.due("ahead of the 12th", z.worker(0, 0), 11);
            z.ticks(1);
            DOC.due("behind the 12th", z.worker(0, 0), -1);
        });
        DOC.says(TERM, "AGAIN, STOP: done.", () -> {
            HangWatch x = Check.made("worker again;worker stop;");
            x.ticks(1);
            DOC.due("again is a step done", x.worker(0, 5), 1);
            DOC.due("stop is a step done", x.worker(1, 5), 1);
        });
    }

    private static void ticks() {
        DOC.says(TERM, "A TICK: WORKERS, rising, that have not ENDED do their STEP, one each", () -> {
            HangWatch x = Check.made("worker get 0,stop;worker put 0,put 1,stop;worker get 0,stop;worker stop;");
            x.ticks(1);
            DOC.due("0 came ahead of the put", x.worker(0, 0), 0);
            DOC.due("1 did one step, not two", x.worker(1, 0), 1);
            DOC.due("2 came behind the put", x.worker(2, 0), 1);
            x.ticks(5);
            DOC.due("what ended does none", x.worker(3, 5), 1);
        });
        DOC.says(TERM, "A STEP that is done lets the next one be its STEP, in the next TICK.", () -> {
            HangWatch x = Check.made("worker lock 0,free 0,put 0,get 0,work 1,rest 1,send 1,stop;worker rest 9;");
            for (int k = 0; k < 8; k++) {
                DOC.due("place at tick " + k, x.worker(0, 0), k);
                x.ticks(1);
            }
            DOC.due("behind all", x.worker(0, 0), -1);
        });
        DOC.says(TERM, "Else it WAITS.", () -> {
            HangWatch x = Check.made("worker lock 0,lock 0;worker get 1;worker put 2,put 2;worker await 0;");
            x.ticks(200);
            int[] places = {1, 0, 1, 0};
            for (int w = 0; w < 4; w++) {
                DOC.due("place of " + w, x.worker(w, 0), places[w]);
                DOC.due("steps of " + w, x.worker(w, 5), places[w]);
                DOC.due("ticks of " + w, x.worker(w, 3), 0);
            }
        });
    }

    private static void locks() {
        DOC.says(TERM, "LOCK: done, if nobody HOLDS it (it HOLDS it then).", () -> {
            HangWatch x = Check.made("worker lock 2,rest 9;worker lock 2,rest 9;worker lock 3,lock 3,stop;");
            x.ticks(1);
            DOC.due("the first has it", x.holder(2), 0);
            DOC.due("the other waits", x.worker(1, 0), 0);
            x.ticks(1);
            DOC.due("held by itself is held, too", x.worker(2, 0), 1);
        });
        DOC.says(TERM, "FREE: done; it HOLDS it no more (if it did).", () -> {
            HangWatch x = Check.made("worker lock 1,free 1,rest 9;worker rest 1,free 0,rest 9;worker lock 0,rest 9;");
            x.ticks(2);
            DOC.due("its own", x.holder(1), -1);
            DOC.due("it is done", x.worker(0, 0), 2);
            DOC.due("another's stays", x.holder(0), 2);
            DOC.due("done all the same", x.worker(1, 0), 2);
            HangWatch y = Check.made("worker free 5,stop;");
            y.ticks(1);
            DOC.due("nobody's", y.holder(5), -1);
            DOC.due("done, too", y.worker(0, 0), 1);
        });
        DOC.says(TERM, "What ENDS keeps its LOCKS.", () -> {
            HangWatch x = Check.made("worker lock 0,lock 5;worker lock 3,stop;worker rest 3,lock 0;");
            x.ticks(50);
            DOC.due("two ended", x.count(1), 2);
            DOC.due("behind the last step", x.worker(0, 12), 1 + 32);
            DOC.due("by stop", x.worker(1, 12), 8);
            DOC.due("nobody else has it", x.worker(2, 6), 1);
        });
    }

    private static void pipes() {
        DOC.says(TERM, "PUT: done, if fewer than ROOM lie there (one more then).", () -> {
            HangWatch x = Check.made("pipe 0 9;worker " + Check.times("put 0,", 10) + "stop;worker put 1,put 1;");
            for (int n = 1; n <= 9; n++) {
                x.ticks(1);
                DOC.due("lie there", x.pipe(0, false), n);
                DOC.due("place", x.worker(0, 0), n);
            }
            x.ticks(1);
            DOC.due("full", x.pipe(0, false), 9);
            DOC.due("it waits", x.worker(0, 0), 9);
            DOC.due("room 1 is full with one", x.worker(1, 0), 1);
        });
        DOC.says(TERM, "GET: done, if any lies there (one less).", () -> {
            HangWatch x = Check.made("pipe 0 2;worker put 0,put 0,rest 9;worker rest 2,get 0,get 0,get 0;");
            int[] lie = {1, 2, 1, 0, 0};
            int[] places = {0, 1, 2, 3, 3};
            for (int i = 0; i < lie.length; i++) {
                x.ticks(1);
                DOC.due("lie at tick " + (i + 1), x.pipe(0, false), lie[i]);
                DOC.due("place at tick " + (i + 1), x.worker(1, 0), places[i]);
            }
        });
    }

    private static void mails() {
        DOC.says(TERM, "SEND: done: a message of it more lies at the other one (also at one that has ENDED).", () -> {
            HangWatch x = Check.made("worker send 1,send 1,send 2;worker rest 9;worker stop;");
            x.ticks(1);
            DOC.due("one", x.messages(1, 0), 1);
            x.ticks(1);
            DOC.due("two", x.messages(1, 0), 2);
            DOC.due("the last had ended", x.worker(2, 0), -1);
            x.ticks(1);
            DOC.due("lies there all the same", x.messages(2, 0), 1);
            DOC.due("done", x.worker(0, 5), 3);
            DOC.due("none the other way", x.messages(0, 1), 0);
        });
        DOC.says(TERM, "AWAIT: done, if a message of that one lies at it (one less).", () -> {
            HangWatch x = Check.made("worker send 2,send 2,rest 9;worker rest 3,send 2,rest 9;worker rest 2,await 0,await 1,await 0,await 0;");
            int[] ofNone = {1, 2, 1, 1, 0, 0};
            int[] places = {0, 1, 2, 3, 4, 4};
            for (int i = 0; i < places.length; i++) {
                x.ticks(1);
                DOC.due("lie of 0 at tick " + (i + 1), x.messages(2, 0), ofNone[i]);
                DOC.due("place at tick " + (i + 1), x.worker(2, 0), places[i]);
                DOC.due("of 1, taken at once", x.messages(2, 1), 0);
            }
            HangWatch y = Check.made("worker send 1,rest 9;worker await 2,stop;worker rest 9,send 1;");
            y.ticks(3);
            DOC.due("a message of another one does not do", y.worker(1, 0), 0);
            DOC.due("and stays", y.messages(1, 0), 1);
        });
    }

    private static void beats() {
        String words = "A WORKER BEATS in a TICK by each tick of WORK, and when a STEP is done (not by ticks of REST ahead of the last one).";
        DOC.says(TERM, words, () -> {
            HangWatch x = Check.made("worker rest 1,work 3,rest 9;worker rest 3,rest 9;worker rest 2,get 0;");
            int[] work = {0, 0, 0, 0, 1};
            int[] rest = {1, 2, 0, 1, 2};
            int[] wait = {1, 0, 1, 2, 3};
            for (int i = 0; i < work.length; i++) {
                x.ticks(1);
                DOC.due("work at tick " + (i + 1), x.worker(0, 4), work[i]);
                DOC.due("rest at tick " + (i + 1), x.worker(1, 4), rest[i]);
                DOC.due("waiting at tick " + (i + 1), x.worker(2, 4), wait[i]);
            }
            String[] steps = {"lock 0", "free 0", "put 0", "get 1", "send 0", "await 0", "again", "stop"};
            for (String step : steps) {
                HangWatch y = Check.made("worker put 1,send 1,rest 9;worker rest 3," + step + ",rest 9;");
                y.ticks(2);
                DOC.due("quiet ahead of " + step, y.worker(1, 4), 2);
                y.ticks(2);
                DOC.due("quiet behind " + step, y.worker(1, 4), 0);
            }
        });
        DOC.says(TERM, "QUIET: TICKS since its latest BEAT (since the begin, if it had none).", () -> {
            HangWatch x = Check.made("worker get 0;worker work 1,get 0;worker rest 99;worker stop;");
            DOC.due("at the begin", x.worker(0, 4), 0);
            x.ticks(60);
            DOC.due("no beat, waiting", x.worker(0, 4), 60);
            DOC.due("a beat in tick 1", x.worker(1, 4), 59);
            DOC.due("no beat, at rest", x.worker(2, 4), 60);
            DOC.due("ended in tick 1", x.worker(3, 4), 59);
        });
    }
}
