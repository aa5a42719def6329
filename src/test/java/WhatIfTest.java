/** Promises 21 to 27: what would be, and images. */
public final class WhatIfTest {
    private static final Check CHECK = new Check("WhatIfTest");
    private static final int[] FAR = {Integer.MIN_VALUE, -2, -1, 201, 1 << 28, Integer.MAX_VALUE};

    public static void main(String[] args) {
        freed();
        later();
        ends();
        told();
        fewest();
        images();
        nothingChanges();
        CHECK.finish();
    }

    private static void freed() {
        HangWatch x = Check.made("worker lock 0,lock 0;worker rest 1,lock 0,stop;worker rest 1,lock 0,get 3;worker rest 9;worker stop;");
        x.ticks(2);
        CHECK.due("by ending, the lock kept", x.freed(0), 1);
        CHECK.due("by going on", x.freed(1), 3);
        CHECK.due("held up again, itself hard still", x.freed(2), 0);
        CHECK.due("at rest", x.freed(3), -1);
        CHECK.due("ended", x.freed(4), -1);
        CHECK.due("none such", x.freed(5), -1);
        for (int w : FAR) {
            CHECK.due("freed " + w, x.freed(w), -1);
        }
        HangWatch y = Check.made("worker get 0;worker rest 9,put 0;worker lock 0,lock 0;");
        y.ticks(2);
        CHECK.due("soft frees none", y.freed(0), 0);
        CHECK.due("hard frees itself", y.freed(2), 1);
    }

    private static void later() {
        HangWatch x = Check.made("window 3;grace 1;worker lock 0,rest 8,free 0;worker rest 1,lock 0;worker lock 1,lock 1;");
        int[][] want = {{0, 0}, {1, 1}, {4, 1}, {5, 1}, {9, 1}, {10, 1}, {200, 1}};
        int[] ended = {0, 0, 0, 0, 0, 2, 2};
        int[] heldUp = {0, 2, 2, 2, 2, 1, 1};
        int[] free = {3, 2, 2, 2, 2, 0, 0};
        int[] hard = {0, 1, 1, 1, 1, 1, 1};
        int[] soft = {0, 0, 1, 1, 1, 0, 0};
        int[] slow = {0, 0, 0, 1, 0, 0, 0};
        for (int i = 0; i < want.length; i++) {
            int n = want[i][0];
            CHECK.due("ended behind " + n, x.later(n, 1), ended[i]);
            CHECK.due("held up behind " + n, x.later(n, 5), heldUp[i]);
            CHECK.due("free behind " + n, x.later(n, 6), free[i]);
            CHECK.due("hard behind " + n, x.later(n, 7), hard[i]);
            CHECK.due("soft behind " + n, x.later(n, 8), soft[i]);
            CHECK.due("slow behind " + n, x.later(n, 9), slow[i]);
        }
        for (int n : FAR) {
            CHECK.due("later " + n, x.later(n, 5), -1);
            CHECK.due("what " + n, x.later(5, n), -1);
        }
        for (int what : new int[] {0, 2, 3, 4, 10, 11, 12, 13}) {
            CHECK.due("what " + what, x.later(5, what), -1);
        }
    }

    private static void ends() {
        HangWatch x = Check.made("worker stop;worker work 50,work 50,work 50,work 50;"
            + "worker work 50,work 50,work 50,work 50,stop;worker lock 0,lock 0;");
        CHECK.due("in one", x.ends(0), 1);
        CHECK.due("in 200", x.ends(1), 200);
        CHECK.due("in 201", x.ends(2), -1);
        CHECK.due("never", x.ends(3), -1);
        CHECK.due("none such", x.ends(4), -1);
        for (int w : FAR) {
            CHECK.due("ends " + w, x.ends(w), -1);
        }
        x.ticks(1);
        CHECK.due("has ended", x.ends(0), 0);
        CHECK.due("in 200 now", x.ends(2), 200);
    }

    private static void told() {
        HangWatch x = Check.made("window 9;grace 0;worker rest 5,again;worker lock 0,lock 0;");
        CHECK.due("none with 9 in 9", x.told(9, 9), 0);
        CHECK.due("one with 9 in 10", x.told(10, 9), 1);
        CHECK.due("with 4", x.told(12, 4), 3);
        CHECK.due("with 1", x.told(1, 1), 1);
        CHECK.due("200 ticks", x.told(200, 50), 1);
        for (int n : FAR) {
            CHECK.due("told " + n, x.told(n, 4), -1);
            CHECK.due("window " + n, x.told(4, n), -1);
        }
        CHECK.due("0 ticks", x.told(0, 4), -1);
        CHECK.due("window 0", x.told(4, 0), -1);
        CHECK.due("window 51", x.told(4, 51), -1);
        x.ticks(10);
        CHECK.due("told already", x.told(5, 9), 0);
        CHECK.due("with another window, too", x.told(3, 1), 1);
        HangWatch y = Check.made("window 1;worker get 0;worker get 0;worker rest 3,put 0,again;");
        CHECK.due("as ticks then answer", y.told(50, 2), twice(y, 50, 2));
    }

    private static int twice(HangWatch x, int n, int window) {
        x.within(false, window);
        int stalls = x.ticks(n);
        x.undo();
        x.undo();
        return stalls;
    }

    private static void fewest() {
        HangWatch x = Check.made("worker lock 0,lock 1,stop;worker lock 1,lock 0,stop;worker get 3;"
            + "worker lock 2,lock 3,stop;worker lock 3,lock 2,stop;");
        x.ticks(3);
        CHECK.due("one of each ring", x.fewest(false), 3);
        CHECK.due("the least", x.fewest(true), 1 + 4 + 8);
        HangWatch y = Check.made("worker lock 0,lock 0,lock 0;");
        y.ticks(2);
        CHECK.due("hard again", y.fewest(false), -1);
        CHECK.due("no set", y.fewest(true), -1);
        HangWatch z = Check.made("worker rest 9;worker get 0,stop;worker work 1,put 0;");
        CHECK.due("none is hard", z.fewest(false), 0);
        CHECK.due("no bits", z.fewest(true), 0);
        // Rising: 2, let go last, holds lock 0 in the end and goes on; were 1 the last, 2 would not.
        HangWatch v = Check.made("worker lock 0;worker rest 1,lock 0,get 3;worker rest 1,lock 0,work 5;");
        v.ticks(2);
        CHECK.due("two that must go", v.fewest(false), 1);
        CHECK.due("the one that goes on", v.fewest(true), 4);
        HangWatch u = Check.made("worker lock 0;worker rest 1,lock 0,lock 0;worker rest 1,lock 0,work 5,free 0;");
        u.ticks(2);
        CHECK.due("one", u.fewest(false), 1);
        CHECK.due("bits", u.fewest(true), 4);
        HangWatch w = Check.made(Check.times("worker get 0;", 8));
        CHECK.due("all eight", w.fewest(false), 8);
        CHECK.due("all bits", w.fewest(true), 255);
    }

    private static void images() {
        HangWatch x = Check.made("window 2;pipe 1 3;worker put 1,send 1,lock 0,lock 0;worker rest 9;");
        for (int k : new int[] {Integer.MIN_VALUE, -1, 3, Integer.MAX_VALUE}) {
            CHECK.due("image " + k, x.image(k), false);
            CHECK.due("again " + k, x.again(k), false);
        }
        CHECK.due("again 0", x.again(0), false);
        x.ticks(5);
        CHECK.due("stalls", x.count(10), 1);
        Check.tell(x, "oh");
        x.feed(1, 2, 3, 4, 5);
        x.end(13);
        CHECK.due("image 0", x.image(0), true);
        CHECK.due("undo stays", x.count(12), 1);
        CHECK.due("again 1", x.again(1), false);
        x.end(0);
        Check.tell(x, "worker stop;worker stop;worker stop;");
        CHECK.due("image 2", x.image(2), true);
        x.ticks(1);
        CHECK.due("again 0", x.again(0), true);
        CHECK.due("no acts", x.undo(), -1);
        int[] want = {2, 0, 5, 2, 6, 1, 1, 1, 0, 0, 1, 1, 0, 13};
        for (int what = 0; what < want.length; what++) {
            CHECK.due("count " + what, x.count(what), want[what]);
        }
        CHECK.due("fault", x.fault(0), 1);
        CHECK.due("place", x.fault(1), 0);
        CHECK.due("stall", x.stall(0, 0), 5);
        CHECK.due("pipe", x.pipe(1, false), 1);
        CHECK.due("room", x.pipe(1, true), 3);
        CHECK.due("mail", x.messages(1, 0), 1);
        CHECK.due("lock", x.holder(0), 0);
        CHECK.due("step", x.step(0, 1, false), 5);
        CHECK.due("not told again", x.ticks(2), 0);
        CHECK.due("image 2 is another", x.again(2), true);
        CHECK.due("three", x.count(0), 3);
        CHECK.due("tick 0", x.count(2), 0);
        CHECK.due("empty tape", x.count(13), 0);
        CHECK.due("image 0 is still there", x.again(0), true);
        CHECK.due("as it was", x.count(2), 5);
        x.ticks(3);
        x.image(0);
        x.ticks(1);
        x.again(0);
        CHECK.due("taken anew", x.count(2), 8);
        HangWatch z = Check.made("window 1;grace 0;worker rest 2,again;");
        z.ticks(100);
        z.image(0);
        z.ticks(50);
        z.again(0);
        CHECK.due("the eldest of the image", z.stall(0, 0), 13);
        CHECK.due("the latest of the image", z.stall(29, 0), 100);
        // The tape's bytes, not only how many: they make a text.
        HangWatch y = new HangWatch();
        Check.load(y, "worker stop;");
        y.image(1);
        Check.load(y, "worker stop,stop;");
        y.again(1);
        CHECK.due("the tape of the image", y.text(), 1);
        CHECK.due("its text", y.worker(0, 13), 1);
        y.again(1);
        CHECK.due("again", y.text(), 1);
    }

    private static void nothingChanges() {
        HangWatch x = Check.made("window 1;grace 0;worker lock 0,rest 9,lock 1;worker lock 1,rest 9,lock 0;worker get 0;worker put 0,put 0;");
        x.ticks(3);
        int before = sum(x);
        x.later(200, 7);
        x.ends(0);
        x.told(200, 3);
        x.fewest(true);
        x.freed(2);
        x.image(0);
        x.worker(2, 10);
        CHECK.due("asking changes nothing", sum(x), before);
    }

    private static int sum(HangWatch x) {
        int sum = 0;
        for (int what = 0; what < 14; what++) {
            sum = sum * 31 + x.count(what);
            for (int w = 0; w < 4; w++) {
                sum = sum * 31 + x.worker(w, what);
            }
        }
        return sum * 31 + x.holder(0) * 7 + x.holder(1) * 3 + x.pipe(0, false);
    }
}
