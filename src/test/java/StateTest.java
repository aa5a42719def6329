/** Promises 11 to 20: what there is. */
public final class StateTest {
    private static final Check CHECK = new Check("StateTest");
    private static final int[] FAR = {Integer.MIN_VALUE, -2, -1, 99, 1 << 28, Integer.MAX_VALUE};

    public static void main(String[] args) {
        counts();
        workers();
        steps();
        locksAndPipes();
        mails();
        waitsForLocks();
        waitsForPipes();
        can();
        freeToGo();
        ways();
        askedFirst();
        neighbours();
        blockers();
        stalls();
        CHECK.finish();
    }

    private static void counts() {
        HangWatch x = Check.made("window 3;grace 2;worker lock 0,rest 50;worker work 1,lock 0;worker lock 1,lock 1;"
            + "worker stop;worker work 50;worker rest 4,rest 4;");
        x.ticks(6);
        int[] want = {6, 1, 6, 3, 2, 2, 4, 1, 1, 1, 3, 3, 1, 0};
        for (int what = 0; what < want.length; what++) {
            CHECK.due("count " + what, x.count(what), want[what]);
        }
        for (int what : FAR) {
            CHECK.due("count " + what, x.count(what), -1);
        }
        CHECK.due("count 14", x.count(14), -1);
    }

    private static void workers() {
        HangWatch x = Check.made("worker work 2,lock 5,lock 3,lock 3;worker again;worker stop;worker rest 40;");
        x.ticks(1);
        row(x, 0, 0, 0, 2, 1, 0, 0, 0, 0, 0, 0, -1, 1, 0, 4);
        row(x, 1, 0, 8, -1, 0, 0, 1, 0, 0, 0, 0, -1, 3, 0, 1);
        row(x, 2, -1, -1, -1, -1, 0, 1, 0, 0, 0, 0, -1, 3, 0, 1);
        row(x, 3, 0, 7, 40, 1, 1, 0, 0, 0, 0, 0, -1, 0, 0, 1);
        x.ticks(9);
        row(x, 0, 3, 1, 3, 0, 6, 3, 1, 1, 0, 0, 0, 1, 40, 4);
        row(x, 3, 0, 7, 40, 10, 10, 0, 0, 0, 0, 1, -1, 1, 0, 1);
        for (int w : FAR) {
            for (int what = 0; what < 14; what++) {
                CHECK.due("worker " + w, x.worker(w, what), -1);
            }
            CHECK.due("what " + w, x.worker(0, w), -1);
        }
        CHECK.due("worker 4", x.worker(4, 5), -1);
        CHECK.due("what 14", x.worker(0, 14), -1);
    }

    private static void row(HangWatch x, int w, int... want) {
        for (int what = 0; what < want.length; what++) {
            CHECK.due("worker " + w + " what " + what, x.worker(w, what), want[what]);
        }
    }

    private static void steps() {
        HangWatch x = Check.made("worker put 3,again;worker stop;");
        x.ticks(1);
        CHECK.due("kind", x.step(0, 0, false), 3);
        CHECK.due("number", x.step(0, 0, true), 3);
        CHECK.due("kind of again", x.step(0, 1, false), 8);
        CHECK.due("no number", x.step(0, 1, true), -1);
        CHECK.due("of one that ended", x.step(1, 0, false), 9);
        CHECK.due("behind the last", x.step(1, 1, false), -1);
        CHECK.due("no worker", x.step(2, 0, false), -1);
        for (int k : FAR) {
            CHECK.due("worker " + k, x.step(k, 0, false), -1);
            CHECK.due("step " + k, x.step(0, k, true), -1);
        }
        CHECK.due("not the next one's", x.step(0, 12, false), -1);
    }

    private static void locksAndPipes() {
        HangWatch x = Check.made("pipe 3 9;worker lock 5,put 3,put 3;");
        x.ticks(3);
        CHECK.due("lock 5", x.holder(5), 0);
        CHECK.due("lock 0", x.holder(0), -1);
        CHECK.due("lock 6", x.holder(6), -1);
        CHECK.due("pipe 3", x.pipe(3, false), 2);
        CHECK.due("room of 3", x.pipe(3, true), 9);
        CHECK.due("room of 2", x.pipe(2, true), 1);
        CHECK.due("pipe 4", x.pipe(4, false), -1);
        for (int k : FAR) {
            CHECK.due("lock " + k, x.holder(k), -1);
            CHECK.due("pipe " + k, x.pipe(k, false), -1);
            CHECK.due("room " + k, x.pipe(k, true), -1);
        }
    }

    private static void mails() {
        HangWatch x = Check.made("worker send 1,again;worker stop;");
        x.ticks(200);
        CHECK.due("many", x.messages(1, 0), 100);
        CHECK.due("none", x.messages(0, 1), 0);
        CHECK.due("of itself", x.messages(1, 1), 0);
        CHECK.due("no such", x.messages(2, 0), -1);
        CHECK.due("of no such", x.messages(0, 2), -1);
        for (int k : FAR) {
            CHECK.due("at " + k, x.messages(k, 0), -1);
            CHECK.due("of " + k, x.messages(0, k), -1);
        }
    }

    private static void waitsForLocks() {
        HangWatch x = Check.made("worker lock 0;worker lock 0;worker lock 1,lock 1;worker work 9;");
        CHECK.due("a free lock", x.waits(1), 0);
        x.ticks(2);
        CHECK.due("for one that ended", x.waits(1), 1);
        CHECK.due("hard", x.worker(1, 7), 1);
        CHECK.due("for itself", x.waits(2), 4);
        CHECK.due("not held up", x.waits(3), 0);
        CHECK.due("ended", x.waits(0), 0);
        CHECK.due("no such", x.waits(4), -1);
        for (int w : FAR) {
            CHECK.due("waits " + w, x.waits(w), -1);
        }
    }

    private static void waitsForPipes() {
        HangWatch x = Check.made("worker get 0,put 0;worker work 9,put 0;worker work 9,get 0;worker put 1,rest 9,put 0;"
            + "worker put 0,put 0;worker stop,put 0;worker rest 9,put 2;worker rest 1,work 9,get 0;");
        CHECK.due("all others that can put", x.waits(0), 2 + 8 + 16);
        x.ticks(2);
        CHECK.due("the getter got it", x.worker(0, 0), 1);
        x.ticks(1);
        CHECK.due("putters wait for getters", x.waits(4), 0);
        HangWatch y = Check.made("worker put 0,put 0,get 0;worker work 9,get 0;worker get 1,get 0;worker stop;");
        y.ticks(2);
        CHECK.due("all others that can get", y.waits(0), 6);
        CHECK.due("a getter of nothing", y.waits(2), 0);
        CHECK.due("is hard", y.worker(2, 7), 1);
        CHECK.due("but one is free", y.worker(0, 7), 0);
    }

    private static void can() {
        String get = "worker get 0;";
        can("its own step", get + "worker put 0;", 0, 2);
        can("a later one", get + "worker work 2,work 2,put 0;", 0, 2);
        can("another pipe", get + "worker put 1;", 0, 0);
        can("behind a stop", get + "worker work 2,stop,put 0;", 0, 0);
        can("behind an again", get + "worker work 2,again,put 0;", 0, 0);
        can("passed, others left", "worker get 0,get 0;worker put 0,put 1,get 0,work 9;", 3, 0);
        can("passed, but again", "worker get 1;worker put 1,work 9,again;", 0, 2);
        can("ahead of again", "worker get 1,get 1;worker put 1,work 9,again;", 3, 2);
        can("passed, stop ahead of again", "worker get 1,get 1;worker put 1,work 9,stop,again;", 3, 0);
        can("passed, no again", "worker get 1,get 1;worker put 1,work 9;", 3, 0);
        can("send to it", "worker await 1;worker work 9,send 0;", 1, 2);
        can("send to another", "worker await 1;worker work 9,send 2;worker send 0,stop;", 0, 0);
        can("send by another", "worker await 1;worker work 9;worker work 9,send 0;", 0, 0);
        can("sent, and again", "worker await 1,await 1;worker send 0,rest 9,again;", 3, 2);
        can("ended", "worker await 1,await 1;worker send 0;", 3, 0);
        can("again alone", get + "worker again,put 0;", 0, 0);
    }

    /** For whom worker 0 waits behind some ticks, if it does. */
    private static void can(String title, String text, int ticks, int want) {
        HangWatch x = Check.made(text);
        if (ticks > 0) {
            x.ticks(ticks);
        }
        CHECK.due(title + ": held up", x.worker(0, 6), 1);
        CHECK.due(title, x.waits(0), want);
    }

    private static void freeToGo() {
        HangWatch x = Check.made("worker get 0,put 1;worker get 1,put 2;worker get 2,put 3;worker work 9,put 0;");
        CHECK.due("all by a chain", x.count(6), 4);
        CHECK.due("none hard", x.count(7), 0);
        HangWatch y = Check.made("worker get 0;worker await 0,put 0;worker lock 0,lock 0,put 0;worker get 3,again;");
        CHECK.due("one of several that is free will do", y.count(6), 2);
        y.ticks(1);
        CHECK.due("none free", y.count(6), 0);
        CHECK.due("all hard", y.count(7), 4);
        HangWatch z = Check.made("window 2;worker get 0;worker rest 3,put 0;");
        z.ticks(1);
        CHECK.due("not yet soft", z.count(8), 0);
        z.ticks(1);
        CHECK.due("soft", z.count(8), 1);
        CHECK.due("by worker", z.worker(0, 8), 1);
    }

    private static void ways() {
        HangWatch x = Check.made("worker lock 0,lock 1;worker lock 1,lock 2;worker lock 2,lock 3;worker lock 3,lock 1;"
            + "worker rest 50;worker lock 4;worker work 1,lock 4;worker work 1,get 0;");
        CHECK.due("not held up", x.way(0, -1), -1);
        CHECK.due("no ring", x.ring(0), -1);
        x.ticks(2);
        way(x, 0, 3, 0, 1, 2, 3);
        way(x, 1, 3, 1, 2, 3);
        way(x, 3, 3, 3, 1, 2);
        way(x, 6, 0, 6, 5);
        way(x, 7, 0, 7);
        CHECK.due("at rest", x.way(4, -1), -1);
        CHECK.due("ended", x.way(5, -1), -1);
        CHECK.due("ring of ended", x.ring(5), -1);
        for (int k : FAR) {
            CHECK.due("way of " + k, x.way(k, 0), -1);
            CHECK.due("ring of " + k, x.ring(k), -1);
            if (k != -1) {
                CHECK.due("place " + k, x.way(0, k), -1);
            }
        }
        HangWatch y = Check.made("worker get 0,put 1;worker get 1,put 0;worker work 9,put 0;");
        way(y, 0, 2, 0, 1);
        way(y, 1, 2, 1, 0);
        CHECK.due("a ring, but not hard", y.count(7), 0);
        HangWatch z = Check.made("worker lock 0,lock 0;worker work 1,lock 0;");
        z.ticks(2);
        way(z, 0, 1, 0);
        way(z, 1, 1, 1, 0);
        HangWatch v = Check.made("worker lock 0,lock 1;worker lock 1,lock 2;worker lock 2,lock 3;worker lock 3,lock 4;"
            + "worker lock 4,lock 5;worker lock 5,get 0;worker put 1,put 1,put 0,put 2;worker get 2,get 1;");
        v.ticks(2);
        way(v, 0, 2, 0, 1, 2, 3, 4, 5, 6, 7);
    }

    /** Each call looks anew: none answers from what an earlier call saw. */
    private static void askedFirst() {
        String text = "worker lock 0,lock 0,stop;worker rest 1,lock 0;";
        HangWatch x = Check.made(text);
        x.ticks(2);
        CHECK.due("ring", x.ring(1), 1);
        x.free(0);
        CHECK.due("ring", x.ring(0), -1);
        x.undo();
        CHECK.due("waits", x.waits(1), 1);
        x.free(0);
        CHECK.due("way", x.way(0, -1), -1);
        x.undo();
        CHECK.due("way", x.way(0, -1), 1);
        x.free(0);
        CHECK.due("freed", x.freed(0), -1);
        x.undo();
        CHECK.due("fewest", x.fewest(true), 1);
        x.free(0);
        CHECK.due("fewest", x.fewest(true), 0);
        x.undo();
        CHECK.due("hard", x.worker(0, 7), 1);
        x.ticks(9);
        CHECK.due("hard", x.count(7), 2);
        x.later(0, 7);
        CHECK.due("ring", x.ring(0), 1);
        x.told(9, 1);
        CHECK.due("ring", x.ring(0), 1);
    }

    private static void way(HangWatch x, int w, int ring, int... want) {
        CHECK.due("way of " + w, x.way(w, -1), want.length);
        for (int k = 0; k < want.length; k++) {
            CHECK.due("way of " + w + " at " + k, x.way(w, k), want[k]);
        }
        CHECK.due("way of " + w + " beyond", x.way(w, want.length), -1);
        CHECK.due("ring of " + w, x.ring(w), ring);
    }

    private static void neighbours() {
        HangWatch x = Check.made("worker rest 9;worker stop;worker lock 0,lock 0;worker get 1;worker rest 9,put 1;");
        x.ticks(2);
        int[] want = {3, 3, 3, 4, 0};
        for (int w = 0; w < want.length; w++) {
            CHECK.due("neighbour of " + w, x.worker(w, 11), want[w]);
        }
        HangWatch y = Check.made("worker rest 9;worker stop;");
        y.ticks(1);
        CHECK.due("none but itself", y.worker(0, 11), -1);
        CHECK.due("of one that ended", y.worker(1, 11), 0);
        CHECK.due("alone", Check.made("worker rest 9;").worker(0, 11), -1);
    }

    private static void blockers() {
        // 1 holds what 2, 3 and 4 want; 0 waits in a ring of its own with itself.
        HangWatch x = Check.made("worker lock 5,lock 5;worker lock 0,get 0,free 0;worker rest 1,lock 0;worker rest 1,lock 0;worker work 2;");
        x.ticks(3);
        CHECK.due("frees most", x.worker(0, 10), 1);
        CHECK.due("of itself too", x.worker(1, 10), 1);
        CHECK.due("of others", x.worker(2, 10), 1);
        CHECK.due("none for one that ended", x.worker(4, 10), -1);
        // Both free two: the one that is quiet longer.
        HangWatch y = Check.made("worker lock 0,work 3,lock 1;worker lock 1,work 2,lock 0;");
        y.ticks(6);
        CHECK.due("quiet longest", y.worker(0, 10), 1);
        // As quiet, as many: the least.
        HangWatch z = Check.made("worker rest 9;worker lock 0,lock 1;worker lock 1,lock 0;");
        z.ticks(4);
        CHECK.due("the least", z.worker(2, 10), 1);
        CHECK.due("not held up", z.worker(0, 10), -1);
        // Not hard: of all that are held up; those free nobody, so the quietest of all.
        HangWatch v = Check.made("worker rest 3,get 0;worker get 0;worker rest 40,put 0;");
        v.ticks(5);
        CHECK.due("quietest", v.worker(0, 10), 1);
        // A soft one looks among hard ones, too, where these free more.
        HangWatch u = Check.made("worker get 0;worker rest 40,put 0;worker work 3,get 1;");
        u.ticks(6);
        CHECK.due("soft, of all", u.worker(0, 10), 2);
        CHECK.due("hard, of hard ones", u.worker(2, 10), 2);
    }

    private static void stalls() {
        HangWatch x = Check.made("window 1;worker lock 0,lock 0;");
        x.ticks(2);
        int[] want = {2, 0, 0, 0, -1};
        for (int what = 0; what < want.length; what++) {
            CHECK.due("stall part " + what, x.stall(0, what), want[what]);
        }
        CHECK.due("part 5", x.stall(0, 5), -1);
        CHECK.due("not so many", x.stall(1, 0), -1);
        for (int k : FAR) {
            CHECK.due("stall " + k, x.stall(k, 0), -1);
            CHECK.due("part " + k, x.stall(0, k), -1);
        }
        // Eight at a time, so that the thirty-one-th pushes the eldest out in the midst of a tick.
        HangWatch y = Check.made("window 1;grace 0;" + Check.times("worker rest 2,again;", 8));
        CHECK.due("told", y.ticks(13), 40);
        CHECK.due("kept", y.count(10), 30);
        CHECK.due("eldest tick", y.stall(0, 0), 4);
        CHECK.due("eldest worker", y.stall(0, 1), 2);
        CHECK.due("latest tick", y.stall(29, 0), 13);
        CHECK.due("latest worker", y.stall(29, 1), 7);
    }
}
