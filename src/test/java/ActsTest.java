/** Promises 6 to 10: ticks, watch, free, within, undo. */
public final class ActsTest {
    private static final Check CHECK = new Check("ActsTest");

    public static void main(String[] args) {
        ticksEdges();
        work();
        rest();
        locks();
        pipes();
        mails();
        againAndStop();
        risingOrder();
        beatsAndKinds();
        toldOnce();
        watches();
        letGo();
        windows();
        undone();
        CHECK.finish();
    }

    private static void ticksEdges() {
        HangWatch x = Check.made("worker work 1,again;");
        for (int n : new int[] {Integer.MIN_VALUE, -1, 0, 201, Integer.MAX_VALUE}) {
            CHECK.due("ticks " + n, x.ticks(n), -1);
        }
        CHECK.due("no tick", x.count(2), 0);
        CHECK.due("no act", x.count(12), 0);
        CHECK.due("ticks 200", x.ticks(200), 0);
        CHECK.due("ticks 1", x.ticks(1), 0);
        CHECK.due("tick", x.count(2), 201);
        CHECK.due("steps done", x.worker(0, 5), 201);
    }

    private static void work() {
        HangWatch x = Check.made("worker work 3,work 1;");
        x.ticks(1);
        state(x, 0, 0, 1, 0, 0);
        x.ticks(1);
        state(x, 0, 0, 2, 0, 0);
        x.ticks(1);
        state(x, 0, 1, 0, 0, 1);
        x.ticks(1);
        state(x, 0, -1, -1, 0, 2);
        x.ticks(5);
        state(x, 0, -1, -1, 5, 2);
    }

    private static void rest() {
        HangWatch x = Check.made("worker rest 3,stop;");
        x.ticks(2);
        state(x, 0, 0, 2, 2, 0);
        x.ticks(1);
        state(x, 0, 1, 0, 0, 1);
        x.ticks(1);
        state(x, 0, -1, -1, 0, 2);
    }

    private static void locks() {
        HangWatch x = Check.made("worker lock 3,free 3,free 3,lock 3;worker work 1,free 3,lock 3,free 3;");
        x.ticks(1);
        CHECK.due("held", x.holder(3), 0);
        x.ticks(1);
        CHECK.due("given back", x.holder(3), -1);
        CHECK.due("freeing what one does not hold is done", x.worker(1, 0), 2);
        x.ticks(1);
        CHECK.due("the other has it", x.holder(3), 1);
        x.ticks(1);
        CHECK.due("freeing what another holds leaves it", x.worker(0, 0), 3);
        CHECK.due("ended", x.worker(1, 0), -1);
        CHECK.due("freed by its own", x.holder(3), -1);
        x.ticks(1);
        CHECK.due("what ends keeps its lock", x.holder(3), 0);
        CHECK.due("as bits", x.worker(0, 12), 8);
        CHECK.due("all ended", x.count(1), 2);
        HangWatch y = Check.made("worker lock 1,work 5,stop;worker work 1,free 1,stop;");
        y.ticks(2);
        CHECK.due("another can't free it", y.holder(1), 0);
        CHECK.due("but its step is done", y.worker(1, 0), 2);
    }

    private static void pipes() {
        HangWatch x = Check.made("pipe 2 2;worker put 2,put 2,put 2;worker rest 4,get 2,get 2,get 2,get 2;");
        x.ticks(2);
        CHECK.due("two lie", x.pipe(2, false), 2);
        x.ticks(2);
        CHECK.due("held up at room", x.worker(0, 6), 1);
        x.ticks(1);
        CHECK.due("one less", x.pipe(2, false), 1);
        x.ticks(1);
        CHECK.due("put, then got, in one tick", x.pipe(2, false), 1);
        CHECK.due("putter ended", x.worker(0, 0), -1);
        x.ticks(1);
        CHECK.due("none lie", x.pipe(2, false), 0);
        x.ticks(1);
        CHECK.due("getter waits", x.worker(1, 6), 1);
        CHECK.due("for nobody", x.waits(1), 0);
        CHECK.due("hard", x.worker(1, 7), 1);
    }

    private static void mails() {
        HangWatch x = Check.made("worker send 1,send 1,await 1;worker await 0,stop;");
        x.ticks(1);
        CHECK.due("sent and taken in one tick", x.messages(1, 0), 0);
        CHECK.due("behind await", x.worker(1, 0), 1);
        x.ticks(1);
        CHECK.due("lies at one that ended", x.messages(1, 0), 1);
        CHECK.due("not at the sender", x.messages(0, 1), 0);
        x.ticks(1);
        CHECK.due("awaits in vain", x.worker(0, 6), 1);
        CHECK.due("waits for nobody", x.waits(0), 0);
        HangWatch z = Check.made("worker rest 1,await 2,await 3;worker stop;worker send 0,send 3;worker await 2,send 0;");
        z.ticks(2);
        CHECK.due("taken from worker 2", z.messages(0, 2), 0);
        CHECK.due("done", z.worker(0, 0), 2);
        CHECK.due("worker 3 has its own", z.worker(3, 0), 1);
        z.ticks(2);
        CHECK.due("all done", z.count(1), 4);
        HangWatch y = Check.made("worker work 3,await 2;worker send 0,stop;worker rest 9,send 0;");
        y.ticks(4);
        CHECK.due("a message of another does not do", y.worker(0, 6), 1);
        CHECK.due("it lies", y.messages(0, 1), 1);
        CHECK.due("waits for the right one", y.waits(0), 4);
    }

    private static void againAndStop() {
        HangWatch x = Check.made("worker work 1,again,work 9;worker stop,work 9;");
        x.ticks(1);
        CHECK.due("stop ends", x.worker(1, 0), -1);
        CHECK.due("stop is a step done", x.worker(1, 5), 1);
        CHECK.due("at again", x.worker(0, 1), 8);
        x.ticks(1);
        state(x, 0, 0, 0, 0, 2);
        x.ticks(2);
        state(x, 0, 0, 0, 0, 4);
    }

    private static void risingOrder() {
        HangWatch x = Check.made("worker lock 0,free 0,again;worker lock 0,free 0,again;");
        x.ticks(1);
        CHECK.due("the lower one first", x.holder(0), 0);
        x.ticks(1);
        CHECK.due("freed, then taken, in one tick", x.holder(0), 1);
        HangWatch y = Check.made("worker get 0;worker put 0;");
        y.ticks(1);
        CHECK.due("the getter came too early", y.worker(0, 0), 0);
        y.ticks(1);
        CHECK.due("a tick later it has it", y.worker(0, 0), -1);
    }

    private static void beatsAndKinds() {
        HangWatch x = Check.made("window 3;grace 2;worker lock 0,rest 20,free 0;worker work 1,lock 0;worker lock 1,lock 1;");
        CHECK.due("nothing at 3", x.ticks(3), 0);
        CHECK.due("hard at 4, soft too", x.ticks(1), 2);
        stall(x, 0, 4, 1, 1, 2, 0);
        stall(x, 1, 4, 2, 0, 2, 0);
        CHECK.due("slow at 6", x.ticks(2), 1);
        stall(x, 2, 6, 0, 2, -1, 1);
        CHECK.due("told once", x.ticks(14), 0);
        CHECK.due("in all", x.count(11), 3);
    }

    private static void toldOnce() {
        HangWatch x = Check.made("window 1;grace 0;worker rest 2,again;");
        CHECK.due("anew behind each beat", x.ticks(200), 67);
        CHECK.due("thirty are kept", x.count(10), 30);
        CHECK.due("told in all", x.count(11), 67);
        CHECK.due("the eldest kept", x.stall(0, 0), 1 + 3 * 37);
        CHECK.due("the latest", x.stall(29, 0), 199);
        CHECK.due("no more", x.stall(30, 0), -1);
        HangWatch y = Check.made("window 1;worker work 1,lock 0,lock 0;");
        y.ticks(3);
        CHECK.due("told", y.count(11), 1);
        y.within(false, 2);
        y.within(false, 1);
        CHECK.due("another window tells nothing again", y.ticks(9), 0);
        HangWatch z = Check.made("window 2;worker rest 9,stop;worker get 0;worker work 5,stop;");
        CHECK.due("waiting for nobody is hard at once", z.count(7), 1);
        HangWatch v = Check.made("window 2;worker get 0;worker work 5,stop,put 0;worker work 6,lock 0,lock 0,put 0;");
        CHECK.due("soft first", v.ticks(2), 1);
        CHECK.due("kind", v.stall(0, 2), 1);
        CHECK.due("then hard, too, without a beat", v.ticks(10), 2);
        CHECK.due("of worker 0", v.stall(1, 1), 0);
        CHECK.due("kind hard", v.stall(1, 2), 0);
        CHECK.due("at the tick when its last hope fell", v.stall(1, 0), 7);
    }

    private static void watches() {
        HangWatch x = Check.made("worker work 9;worker rest 30;");
        CHECK.due("till slow", x.watch(), 10);
        CHECK.due("tick", x.count(2), 10);
        CHECK.due("one act", x.count(12), 1);
        CHECK.due("200 at most", x.watch(), 200);
        CHECK.due("two acts", x.count(12), 2);
        CHECK.due("all ended", x.watch(), -1);
        CHECK.due("no act", x.count(12), 2);
        x.undo();
        CHECK.due("all its ticks undone", x.count(2), 10);
        HangWatch y = Check.made("window 50;grace 50;worker work 50,work 50,work 50,work 48,work 1,again;worker rest 99,lock 0,rest 1,lock 0;");
        CHECK.due("a stall in the midst", y.watch(), 151);
        HangWatch z = Check.made("window 1;worker rest 1,work 50,work 50,work 50,work 48,lock 0,lock 0;worker work 1;");
        CHECK.due("no stall in 200", z.watch(), 200);
        CHECK.due("then at once", z.watch(), 1);
        CHECK.due("at 201", z.stall(0, 0), 201);
    }

    private static void letGo() {
        HangWatch x = Check.made("worker lock 0,lock 0,put 0,put 0,get 1,await 1,stop;worker stop,send 0;");
        for (int w : new int[] {Integer.MIN_VALUE, -1, 0, 1, 2, 8, 32, Integer.MAX_VALUE}) {
            CHECK.due("not held up " + w, x.free(w), false);
        }
        CHECK.due("no act", x.count(12), 0);
        x.ticks(2);
        CHECK.due("let go of its own lock", x.free(0), true);
        state(x, 0, 2, 0, 0, 2);
        CHECK.due("still its own", x.holder(0), 0);
        x.ticks(2);
        CHECK.due("held up at put", x.free(0), true);
        CHECK.due("pipe as it was", x.pipe(0, false), 1);
        CHECK.due("at get", x.worker(0, 1), 4);
        CHECK.due("held up at get", x.free(0), true);
        CHECK.due("pipe 1 as it was", x.pipe(1, false), 0);
        CHECK.due("held up at await", x.free(0), true);
        CHECK.due("no messages", x.messages(0, 1), 0);
        CHECK.due("not at stop", x.free(0), false);
        CHECK.due("steps", x.worker(0, 5), 6);
        HangWatch y = Check.made("worker lock 2,rest 9,free 2,stop;worker lock 2;");
        y.ticks(3);
        CHECK.due("free", y.free(1), true);
        CHECK.due("the lock is its own", y.holder(2), 1);
        CHECK.due("not the other's", y.worker(0, 12), 0);
        CHECK.due("it ended by it", y.worker(1, 0), -1);
        CHECK.due("not again", y.free(1), false);
        y.ticks(9);
        CHECK.due("the other's free leaves it", y.holder(2), 1);
        HangWatch z = Check.made("window 2;worker lock 0,lock 0,lock 0;");
        CHECK.due("told", z.ticks(3), 1);
        z.free(0);
        CHECK.due("a beat at tick 3", z.ticks(1), 0);
        CHECK.due("told anew", z.ticks(1), 1);
    }

    private static void windows() {
        HangWatch x = Check.made("worker stop;");
        CHECK.due("the same window", x.within(false, 4), false);
        CHECK.due("the same grace", x.within(true, 6), false);
        int[] bad = {Integer.MIN_VALUE, -1, 51, Integer.MAX_VALUE};
        for (int v : bad) {
            CHECK.due("window " + v, x.within(false, v), false);
            CHECK.due("grace " + v, x.within(true, v), false);
        }
        CHECK.due("window 0", x.within(false, 0), false);
        CHECK.due("no acts", x.count(12), 0);
        CHECK.due("window 1", x.within(false, 1), true);
        CHECK.due("window 50", x.within(false, 50), true);
        CHECK.due("grace 0", x.within(true, 0), true);
        CHECK.due("grace 50", x.within(true, 50), true);
        CHECK.due("window", x.count(3), 50);
        CHECK.due("grace", x.count(4), 50);
        CHECK.due("acts", x.count(12), 4);
    }

    private static void undone() {
        HangWatch x = Check.made("window 2;pipe 0 9;worker put 0,send 1,again;worker lock 0,lock 0;");
        for (int i = 1; i <= 8; i++) {
            x.ticks(1);
            CHECK.due("acts", x.count(12), i);
        }
        x.ticks(1);
        CHECK.due("eight at most", x.count(12), 8);
        CHECK.due("stalls", x.count(10), 1);
        for (int i = 7; i >= 0; i--) {
            CHECK.due("undo", x.undo(), i);
            CHECK.due("tick", x.count(2), i + 1);
            CHECK.due("quiet", x.worker(1, 4), i);
            CHECK.due("stalls", x.count(11), i + 1 >= 3 ? 1 : 0);
            CHECK.due("kept", x.count(10), i + 1 >= 3 ? 1 : 0);
        }
        CHECK.due("no more", x.undo(), -1);
        CHECK.due("tick stays", x.count(2), 1);
        CHECK.due("pipe", x.pipe(0, false), 1);
        CHECK.due("mail", x.messages(1, 0), 0);
        CHECK.due("lock", x.holder(0), 1);
        CHECK.due("told again", x.ticks(5), 1);
        x.free(1);
        CHECK.due("ended", x.worker(1, 0), -1);
        CHECK.due("undone", x.undo(), 1);
        CHECK.due("not ended", x.worker(1, 0), 1);
        x.within(false, 9);
        x.within(true, 9);
        x.undo();
        CHECK.due("window 9", x.count(3), 9);
        CHECK.due("grace 6", x.count(4), 6);
        x.undo();
        CHECK.due("window 2", x.count(3), 2);
        x.feed(1, 2, 3, 4, 5);
        x.undo();
        CHECK.due("the tape stays", x.count(13), 20);
        // More than are kept: the rows that went round come back.
        HangWatch y = Check.made("window 1;grace 0;worker rest 2,again;");
        y.ticks(100);
        CHECK.due("kept", y.count(10), 30);
        CHECK.due("eldest", y.stall(0, 0), 13);
        y.ticks(40);
        CHECK.due("eldest later", y.stall(0, 0), 52);
        y.undo();
        CHECK.due("told in all", y.count(11), 34);
        for (int k = 0; k < 30; k++) {
            CHECK.due("stall " + k, y.stall(k, 0), 13 + 3 * k);
        }
    }

    private static void state(HangWatch x, int w, int place, int ticked, int quiet, int steps) {
        CHECK.due("place of " + w, x.worker(w, 0), place);
        CHECK.due("ticks of " + w, x.worker(w, 3), ticked);
        CHECK.due("quiet of " + w, x.worker(w, 4), quiet);
        CHECK.due("steps of " + w, x.worker(w, 5), steps);
    }

    private static void stall(HangWatch x, int k, int... parts) {
        for (int what = 0; what < parts.length; what++) {
            CHECK.due("stall " + k + " part " + what, x.stall(k, what), parts[what]);
        }
    }
}
