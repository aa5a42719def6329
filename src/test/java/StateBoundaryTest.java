/** Promises 11 to 20: what there is; word by word, at their boundaries. */
public final class StateBoundaryTest {
    private static final Sentences DOC = new Sentences("StateBoundaryTest");
    private static final int[] FAR = {Integer.MIN_VALUE, -2, 31, 32, 33, 64, 1 << 28, Integer.MAX_VALUE};

    public static void main(String[] args) {
        counts();
        countsOfStates();
        countsOfPast();
        workerSteps();
        workerStates();
        workerRelations();
        steps();
        holders();
        pipes();
        messages();
        waits();
        ways();
        rings();
        stalls();
        String[] sections = new String[10];
        for (int k = 0; k < sections.length; k++) {
            sections[k] = "Promise " + (11 + k);
        }
        DOC.finish(sections);
    }

    private static void counts() {
        DOC.says("Promise 11", "What 0: WORKERS", () -> {
            DOC.due("none", new HangWatch().count(0), 0);
            HangWatch x = Check.made(Check.times("worker stop;", 8));
            x.ticks(1);
            DOC.due("eight, those that ended, too", x.count(0), 8);
        });
        DOC.says("Promise 11", "1: those that have ENDED", () -> {
            HangWatch x = Check.made("worker stop;worker work 2;worker rest 9;");
            for (int want = 0; want <= 2; want++) {
                DOC.due("at tick " + want, x.count(1), want);
                x.ticks(1);
            }
            HangWatch y = Check.made(Check.times("worker stop;", 8));
            y.ticks(1);
            DOC.due("all eight", y.count(1), 8);
        });
        DOC.says("Promise 11", "2: the TICK", () -> {
            HangWatch x = Check.made("worker stop;");
            DOC.due("0", x.count(2), 0);
            x.ticks(200);
            x.ticks(200);
            DOC.due("400", x.count(2), 400);
        });
        DOC.says("Promise 11", "3: WINDOW", () -> {
            HangWatch x = Check.made("window 50;");
            DOC.due("50", x.count(3), 50);
            x.within(false, 1);
            DOC.due("1", x.count(3), 1);
        });
        DOC.says("Promise 11", "4: GRACE", () -> {
            HangWatch x = Check.made("grace 50;");
            DOC.due("50", x.count(4), 50);
            x.within(true, 0);
            DOC.due("0", x.count(4), 0);
        });
        DOC.says("Promise 11", "13: bytes on the tape.", () -> {
            HangWatch x = new HangWatch();
            DOC.due("0", x.count(13), 0);
            for (int i = 0; i < 40; i++) {
                x.feed(0, 0, 0, 0, 0);
            }
            DOC.due("800", x.count(13), 800);
            x.end(799);
            DOC.due("799", x.count(13), 799);
            x.text();
            DOC.due("0 behind a text", x.count(13), 0);
        });
        DOC.says("Promise 11", "NONE for another what.", () -> {
            HangWatch x = Check.made("worker rest 9;");
            DOC.due("count(-1)", x.count(-1), -1);
            DOC.due("count(14)", x.count(14), -1);
            for (int what : FAR) {
                DOC.due("count(" + what + ")", x.count(what), -1);
            }
        });
    }

    private static void countsOfStates() {
        String eight = Check.times("worker get 0;", 8);
        DOC.says("Promise 11", "5: HELD UP", () -> {
            DOC.due("none", Check.made("worker stop;worker lock 0;").count(5), 0);
            DOC.due("one", Check.made("worker stop;worker get 0;").count(5), 1);
            DOC.due("all eight", Check.made(eight).count(5), 8);
        });
        DOC.says("Promise 11", "6: FREE TO GO", () -> {
            DOC.due("none", Check.made(eight).count(6), 0);
            DOC.due("two: one that works, and who waits for it", Check.made("worker get 0;worker work 9,put 0;worker get 1;").count(6), 2);
            DOC.due("all eight", Check.made(Check.times("worker rest 9;", 8)).count(6), 8);
        });
        DOC.says("Promise 11", "7: HARD", () -> {
            DOC.due("none", Check.made("worker get 0;worker work 9,put 0;").count(7), 0);
            DOC.due("one", Check.made("worker get 1;worker work 9,put 0;").count(7), 1);
            DOC.due("all eight", Check.made(eight).count(7), 8);
        });
        DOC.says("Promise 11", "8: SOFT", () -> {
            HangWatch x = Check.made("window 2;" + Check.times("worker get 0;", 7) + "worker rest 99,put 0;");
            x.ticks(1);
            DOC.due("too early", x.count(8), 0);
            x.ticks(1);
            DOC.due("seven", x.count(8), 7);
        });
        DOC.says("Promise 11", "9: SLOW", () -> {
            HangWatch x = Check.made("window 1;grace 1;" + Check.times("worker rest 99;", 8));
            x.ticks(1);
            DOC.due("too early", x.count(9), 0);
            x.ticks(1);
            DOC.due("all eight", x.count(9), 8);
        });
    }

    private static void countsOfPast() {
        DOC.says("Promise 11", "10: STALLS kept", () -> {
            HangWatch x = Check.made("window 1;grace 0;worker rest 2,again;");
            DOC.due("none", x.count(10), 0);
            x.ticks(85);
            DOC.due("29", x.count(10), 29);
            x.ticks(3);
            DOC.due("30", x.count(10), 30);
            x.ticks(3);
            DOC.due("30 of 31", x.count(10), 30);
        });
        DOC.says("Promise 11", "11: STALLS told in all", () -> {
            HangWatch x = Check.made("window 1;grace 0;worker rest 2,again;");
            DOC.due("none", x.count(11), 0);
            x.ticks(91);
            DOC.due("31", x.count(11), 31);
            x.ticks(200);
            DOC.due("97", x.count(11), 97);
        });
        DOC.says("Promise 11", "12: ACTS that can be UNDONE", () -> {
            HangWatch x = Check.made("worker rest 99;");
            for (int i = 0; i <= 10; i++) {
                DOC.due("behind " + i, x.count(12), Math.min(i, 8));
                x.ticks(1);
            }
            x.undo();
            DOC.due("one is undone", x.count(12), 7);
            x.image(0);
            DOC.due("an image leaves them", x.count(12), 7);
            x.again(0);
            DOC.due("again does not", x.count(12), 0);
        });
    }

    private static void workerSteps() {
        DOC.says("Promise 12", "Of a WORKER, what 0: its STEP's place (from 0; NONE: it has ENDED)", () -> {
            HangWatch x = Check.made("worker " + Check.times("work 1,", 11) + "work 1;");
            for (int k = 0; k < 12; k++) {
                DOC.due("at tick " + k, x.worker(0, 0), k);
                x.ticks(1);
            }
            DOC.due("ended", x.worker(0, 0), -1);
        });
        DOC.says("Promise 12", "1: that STEP", () -> {
            HangWatch x = Check.made("worker work 1,lock 1,free 1,put 1,get 1,send 1,rest 1,again;worker rest 9;");
            int[] kinds = {0, 1, 2, 3, 4, 5, 7, 8, 0};
            for (int kind : kinds) {
                DOC.due("step", x.worker(0, 1), kind);
                x.ticks(1);
            }
            DOC.due("await", Check.made("worker await 1;worker stop;").worker(0, 1), 6);
            DOC.due("stop", Check.made("worker stop;").worker(0, 1), 9);
        });
        DOC.says("Promise 12", "2: its number (NONE without)", () -> {
            HangWatch x = Check.made("worker work 50,rest 99,lock 0,again;worker again;worker stop;");
            DOC.due("50", x.worker(0, 2), 50);
            DOC.due("of again", x.worker(1, 2), -1);
            DOC.due("of stop", x.worker(2, 2), -1);
            x.ticks(50);
            DOC.due("99", x.worker(0, 2), 99);
            x.ticks(99);
            DOC.due("0", x.worker(0, 2), 0);
        });
        DOC.says("Promise 12", "3: ticks done of it", () -> {
            HangWatch x = Check.made("worker rest 99,work 50,get 0;");
            DOC.due("0", x.worker(0, 3), 0);
            x.ticks(98);
            DOC.due("98 of 99", x.worker(0, 3), 98);
            x.ticks(1);
            DOC.due("0 of the next", x.worker(0, 3), 0);
            x.ticks(49);
            DOC.due("49 of 50", x.worker(0, 3), 49);
            x.ticks(9);
            DOC.due("waiting is none of them", x.worker(0, 3), 0);
        });
        DOC.says("Promise 12", "4: QUIET", () -> {
            HangWatch x = Check.made("worker work 1,get 0;worker stop;");
            DOC.due("0", x.worker(0, 4), 0);
            x.ticks(1);
            DOC.due("a beat", x.worker(0, 4), 0);
            x.ticks(200);
            DOC.due("200", x.worker(0, 4), 200);
            DOC.due("of one that ended, too", x.worker(1, 4), 200);
        });
        DOC.says("Promise 12", "5: STEPS done in all", () -> {
            HangWatch x = Check.made("worker work 1,again;worker work 3,stop;worker get 0;");
            x.ticks(200);
            DOC.due("again counts, too", x.worker(0, 5), 200);
            DOC.due("of one that ended", x.worker(1, 5), 2);
            DOC.due("of one that waits", x.worker(2, 5), 0);
            x.free(2);
            DOC.due("letting go counts, too", x.worker(2, 5), 1);
        });
        DOC.says("Promise 12", "13: STEPS of its PROGRAM.", () -> {
            HangWatch x = Check.made("worker stop;worker " + Check.times("stop,", 11) + "stop;");
            x.ticks(1);
            DOC.due("1, of one that ended", x.worker(0, 13), 1);
            DOC.due("12", x.worker(1, 13), 12);
        });
    }

    private static void workerStates() {
        String text = "window 1;grace 0;worker get 0;worker get 1;worker rest 99,put 1;worker stop;worker work 9;";
        DOC.says("Promise 12", "6: 1 if it is HELD UP, else 0", () -> states(text, 6, 1, 1, 0, 0, 0));
        DOC.says("Promise 12", "7: HARD", () -> states(text, 7, 1, 0, 0, 0, 0));
        DOC.says("Promise 12", "8: SOFT", () -> states(text, 8, 0, 1, 0, 0, 0));
        DOC.says("Promise 12", "9: SLOW", () -> states(text, 9, 0, 0, 1, 0, 0));
        DOC.says("Promise 12", "12: LOCKS that it HOLDS, as bits", () -> {
            HangWatch x = Check.made("worker lock 0,lock 5,free 0,stop;worker stop;worker lock 4;");
            int[] want = {0, 1, 33, 32, 32};
            for (int locks : want) {
                DOC.due("at tick " + x.count(2), x.worker(0, 12), locks);
                x.ticks(1);
            }
            DOC.due("none", x.worker(1, 12), 0);
            DOC.due("of one that ended", x.worker(2, 12), 16);
            HangWatch y = Check.made("worker lock 0,lock 1,lock 2,lock 3,lock 4,lock 5;");
            y.ticks(6);
            DOC.due("all six", y.worker(0, 12), 63);
        });
        DOC.says("Promise 12", "NONE: there is none such, another what", () -> {
            HangWatch x = Check.made("worker rest 9;worker rest 9;");
            for (int what = 0; what <= 13; what++) {
                DOC.due("worker(-1, " + what + ")", x.worker(-1, what), -1);
                DOC.due("worker(2, " + what + ")", x.worker(2, what), -1);
                DOC.due("worker(8, " + what + ")", x.worker(8, what), -1);
            }
            DOC.due("what -1", x.worker(0, -1), -1);
            DOC.due("what 14", x.worker(0, 14), -1);
            for (int far : FAR) {
                DOC.due("worker " + far, x.worker(far, 4), -1);
                DOC.due("what " + far, x.worker(0, far), -1);
            }
        });
        DOC.says("Promise 12", "(1, 2, 3: it has ENDED).", () -> {
            HangWatch x = Check.made("worker work 1;worker rest 9;");
            x.ticks(1);
            int[] want = {-1, -1, -1, -1, 0, 1, 0, 0, 0, 0, -1, 1, 0, 1};
            for (int what = 0; what < want.length; what++) {
                DOC.due("what " + what, x.worker(0, what), want[what]);
            }
        });
    }

    private static void states(String text, int what, int... want) {
        HangWatch x = Check.made(text);
        x.ticks(1);
        for (int w = 0; w < want.length; w++) {
            DOC.due("worker(" + w + ", " + what + ")", x.worker(w, what), want[w]);
        }
    }

    private static void workerRelations() {
        DOC.says("Promise 12", "10: BLOCKER", () -> {
            HangWatch x = Check.made("worker rest 2,lock 0;worker lock 0,get 0,rest 9;worker rest 9;");
            x.ticks(2);
            DOC.due("another one", x.worker(0, 10), 1);
            DOC.due("itself", x.worker(1, 10), 1);
            DOC.due("none", x.worker(2, 10), -1);
        });
        DOC.says("Promise 12", "11: NEIGHBOUR", () -> {
            HangWatch x = Check.made("worker rest 9;worker stop;worker get 0;worker rest 9;");
            x.ticks(1);
            int[] want = {3, 3, 3, 0};
            for (int w = 0; w < want.length; w++) {
                DOC.due("of " + w, x.worker(w, 11), want[w]);
            }
            DOC.due("none", Check.made("worker rest 9;worker get 0;").worker(0, 11), -1);
        });
    }

    private static void steps() {
        HangWatch x = Check.made("worker stop;worker rest 99," + Check.times("lock 0,", 10) + "again;");
        DOC.says("Promise 13", "STEP k of a PROGRAM, or (number) its number (NONE without).", () -> {
            DOC.due("the first", x.step(1, 0, false), 7);
            DOC.due("its number", x.step(1, 0, true), 99);
            DOC.due("lock", x.step(1, 10, false), 1);
            DOC.due("number 0", x.step(1, 10, true), 0);
            DOC.due("the 12th", x.step(1, 11, false), 8);
            DOC.due("without", x.step(1, 11, true), -1);
            x.ticks(1);
            DOC.due("of one that ended", x.step(0, 0, false), 9);
        });
        DOC.says("Promise 13", "NONE: there are none such.", () -> {
            for (boolean number : new boolean[] {false, true}) {
                DOC.due("behind the only one", x.step(0, 1, number), -1);
                DOC.due("the place where the next worker's first lies", x.step(0, 12, number), -1);
                DOC.due("behind the 12th", x.step(1, 12, number), -1);
                DOC.due("ahead of the first", x.step(1, -1, number), -1);
                DOC.due("worker -1", x.step(-1, 0, number), -1);
                DOC.due("worker 2", x.step(2, 0, number), -1);
                DOC.due("worker 8", x.step(8, 0, number), -1);
                DOC.due("worker 8 of 8", Check.made(Check.times("worker stop;", 8)).step(8, 0, number), -1);
                for (int far : FAR) {
                    DOC.due("worker " + far, x.step(far, 0, number), -1);
                    DOC.due("step " + far, x.step(1, far, number), -1);
                }
            }
        });
    }

    private static void holders() {
        HangWatch x = Check.made(Check.times("worker stop;", 6) + "worker lock 0,rest 9;worker lock 5;");
        x.ticks(1);
        DOC.says("Promise 14", "Who HOLDS a LOCK.", () -> {
            DOC.due("lock 0", x.holder(0), 6);
            DOC.due("lock 5, one that ended", x.holder(5), 7);
        });
        DOC.says("Promise 14", "NONE: nobody, there is none such.", () -> {
            for (int lock = 1; lock <= 4; lock++) {
                DOC.due("lock " + lock, x.holder(lock), -1);
            }
            DOC.due("lock -1", x.holder(-1), -1);
            DOC.due("lock 6", x.holder(6), -1);
            for (int far : FAR) {
                DOC.due("lock " + far, x.holder(far), -1);
            }
        });
    }

    private static void pipes() {
        HangWatch x = Check.made("pipe 3 9;worker put 0,put 3,put 3;");
        DOC.says("Promise 15", "How many lie in a PIPE, or (room) its ROOM.", () -> {
            for (int pipe = 0; pipe < 4; pipe++) {
                DOC.due("none lies", x.pipe(pipe, false), 0);
                DOC.due("room", x.pipe(pipe, true), pipe == 3 ? 9 : 1);
            }
            x.ticks(3);
            DOC.due("pipe 0", x.pipe(0, false), 1);
            DOC.due("pipe 3", x.pipe(3, false), 2);
            DOC.due("its room stays", x.pipe(3, true), 9);
        });
        DOC.says("Promise 15", "NONE: there is none such.", () -> {
            for (boolean room : new boolean[] {false, true}) {
                DOC.due("pipe -1", x.pipe(-1, room), -1);
                DOC.due("pipe 4", x.pipe(4, room), -1);
                for (int far : FAR) {
                    DOC.due("pipe " + far, x.pipe(far, room), -1);
                }
            }
        });
    }

    private static void messages() {
        HangWatch x = Check.made("worker send 7,again;" + Check.times("worker stop;", 6) + "worker send 0,send 0;");
        DOC.says("Promise 16", "How many messages of one WORKER lie at another one.", () -> {
            DOC.due("none", x.messages(7, 0), 0);
            x.ticks(200);
            DOC.due("a hundred of 0 at 7", x.messages(7, 0), 100);
            DOC.due("two of 7 at 0", x.messages(0, 7), 2);
            DOC.due("none of 1 at 0", x.messages(0, 1), 0);
        });
        DOC.says("Promise 16", "NONE: there are none such.", () -> {
            HangWatch y = Check.made("worker send 1;worker stop;");
            y.ticks(1);
            DOC.due("at -1", y.messages(-1, 0), -1);
            DOC.due("of -1", y.messages(0, -1), -1);
            DOC.due("at 2", y.messages(2, 0), -1);
            DOC.due("of 2", y.messages(0, 2), -1);
            DOC.due("of 8, where the next one's first lies", x.messages(6, 8), -1);
            DOC.due("at 8", x.messages(8, 0), -1);
            for (int far : FAR) {
                DOC.due("at " + far, y.messages(far, 0), -1);
                DOC.due("of " + far, y.messages(1, far), -1);
            }
        });
    }

    private static void waits() {
        HangWatch x = Check.made("worker get 0;worker stop;" + Check.times("worker rest 9,put 0;", 6));
        DOC.says("Promise 17", "For whom a WORKER WAITS, as bits (0 if it is not HELD UP).", () -> {
            DOC.due("2 to 7", x.waits(0), 252);
            DOC.due("at rest", x.waits(2), 0);
            x.ticks(1);
            DOC.due("ended", x.waits(1), 0);
            DOC.due("held up, for nobody", Check.made("worker get 0;").waits(0), 0);
            HangWatch y = Check.made("worker get 0,rest 9;worker rest 9,put 0;worker get 1;worker rest 9,put 1;");
            DOC.due("held up", y.waits(0) + y.waits(2), 2 + 8);
            y.free(0);
            y.free(2);
            DOC.due("held up no more", y.waits(0), 0);
            DOC.due("held up no more, but ended", y.waits(2), 0);
        });
        DOC.says("Promise 17", "NONE: there is none such.", () -> {
            DOC.due("-1", x.waits(-1), -1);
            DOC.due("8", x.waits(8), -1);
            DOC.due("1 of one", Check.made("worker get 0;").waits(1), -1);
            for (int far : FAR) {
                DOC.due("waits(" + far + ")", x.waits(far), -1);
            }
        });
    }

    private static void ways() {
        HangWatch x = Check.made("worker await 1;worker await 2,send 0,send 2;worker await 1,send 1;worker rest 9;worker stop;");
        x.ticks(1);
        String words = "The k-th of the FIRST WAY of a WORKER (itself first; one that comes a second time not told again), or how many there are (k NONE).";
        DOC.says("Promise 18", words, () -> {
            DOC.due("itself", x.way(0, 0), 0);
            DOC.due("then 1", x.way(0, 1), 1);
            DOC.due("then 2", x.way(0, 2), 2);
            DOC.due("1 is not told again", x.way(0, 3), -1);
            DOC.due("three", x.way(0, -1), 3);
            DOC.due("one that waits for nobody", Check.made("worker get 0;").way(0, -1), 1);
        });
        DOC.says("Promise 18", "NONE: not so many, it is not HELD UP, none such.", () -> {
            for (int far : FAR) {
                DOC.due("k " + far, x.way(0, far), -1);
                DOC.due("worker " + far, x.way(far, 0), -1);
                DOC.due("worker " + far + ", how many", x.way(far, -1), -1);
            }
            DOC.due("k 8", x.way(0, 8), -1);
            DOC.due("at rest", x.way(3, 0), -1);
            DOC.due("at rest, how many", x.way(3, -1), -1);
            DOC.due("ended", x.way(4, -1), -1);
            DOC.due("worker 5", x.way(5, -1), -1);
            DOC.due("worker -1", x.way(-1, -1), -1);
            HangWatch y = Check.made("worker await 1;worker get 0,send 0;");
            y.way(0, 1);
            DOC.due("nothing of an earlier way is left", y.way(1, 1), -1);
        });
    }

    private static void rings() {
        HangWatch x = Check.made("worker await 1;worker await 2,send 0,send 2;worker await 1,send 1;worker get 0;worker rest 9;worker stop;");
        x.ticks(1);
        DOC.says("Promise 19", "How many of the FIRST WAY of a WORKER are its RING (0 without).", () -> {
            DOC.due("2 of 3", x.ring(0), 2);
            DOC.due("2 of 2", x.ring(1), 2);
            DOC.due("waits for nobody", x.ring(3), 0);
            DOC.due("the way ends", Check.made("worker get 0;worker rest 9,put 0;").ring(0), 0);
        });
        DOC.says("Promise 19", "NONE: none such, it is not HELD UP.", () -> {
            DOC.due("at rest", x.ring(4), -1);
            DOC.due("ended", x.ring(5), -1);
            DOC.due("worker 6", x.ring(6), -1);
            DOC.due("worker -1", x.ring(-1), -1);
            for (int far : FAR) {
                DOC.due("ring(" + far + ")", x.ring(far), -1);
            }
        });
    }

    private static void stalls() {
        HangWatch x = Check.made("window 2;grace 0;worker rest 9;worker rest 1,lock 0,stop;worker lock 0,get 0,rest 9;worker get 1;worker rest 1,put 2,rest 9,put 1;");
        x.ticks(4);
        String words = "Of the k-th STALL kept (the eldest first), what 0: the TICK, 1: the WORKER, 2: KIND, 3: BLOCKER, 4: NEIGHBOUR.";
        DOC.says("Promise 20", words, () -> {
            DOC.stall(x, 0, 2, 0, 2, -1, 3);
            DOC.stall(x, 1, 2, 3, 1, 2, 4);
            DOC.stall(x, 2, 3, 1, 0, 2, 3);
            DOC.stall(x, 3, 3, 2, 0, 2, 3);
            DOC.stall(x, 4, 4, 4, 2, -1, 0);
        });
        DOC.says("Promise 20", "NONE: not so many, another what.", () -> {
            DOC.due("five", x.count(10), 5);
            for (int what = 0; what < 5; what++) {
                DOC.due("stall(5, " + what + ")", x.stall(5, what), -1);
                DOC.due("stall(-1, " + what + ")", x.stall(-1, what), -1);
            }
            DOC.due("what 5", x.stall(0, 5), -1);
            DOC.due("what -1", x.stall(1, -1), -1);
            for (int far : FAR) {
                DOC.due("stall(" + far + ", 0)", x.stall(far, 0), -1);
                DOC.due("stall(0, " + far + ")", x.stall(0, far), -1);
            }
            HangWatch y = Check.made("window 1;grace 0;worker rest 2,again;");
            DOC.due("none at all", y.stall(0, 0), -1);
            y.ticks(200);
            DOC.due("the 30th", y.stall(29, 0), 199);
            DOC.due("no 31st", y.stall(30, 0), -1);
        });
    }
}
