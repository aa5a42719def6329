/** Promises 21 to 27: what would be, and images; word by word, at their boundaries. */
public final class WhatIfBoundaryTest {
    private static final Sentences DOC = new Sentences("WhatIfBoundaryTest");
    private static final int[] FAR = {Integer.MIN_VALUE, -200, -2, -1, 201, 256, 1 << 28, Integer.MAX_VALUE};

    public static void main(String[] args) {
        freed();
        later();
        ends();
        told();
        fewest();
        image();
        again();
        String[] sections = new String[7];
        for (int k = 0; k < sections.length; k++) {
            sections[k] = "Promise " + (21 + k);
        }
        DOC.finish(sections);
    }

    private static void freed() {
        String words = "Were a WORKER LET GO, how many that are HARD now would not be so at once (itself, too, also if it ENDS by it).";
        DOC.says("Promise 21", words, () -> {
            HangWatch x = Check.made("worker get 0,rest 9;worker get 0;worker lock 0,lock 0,lock 0;worker get 1;worker rest 99,put 1;");
            x.ticks(1);
            DOC.due("itself", x.freed(0), 1);
            DOC.due("itself, though it ends by it", x.freed(1), 1);
            DOC.due("hard again at once", x.freed(2), 0);
            DOC.due("one that is not hard", x.freed(3), 0);
            DOC.due("none is hard", Check.made("worker get 0;worker rest 9,put 0;").freed(0), 0);
            HangWatch v = Check.made("worker await 1;worker get 0,rest 9,send 0;");
            DOC.due("itself, though it waits for another", v.freed(0), 1);
            v.free(1);
            DOC.due("held up, none is hard any more", v.freed(0), 0);
            DOC.due("worker 0 alone is", Check.made("worker get 0;worker rest 9;").freed(0), 1);
            HangWatch z = Check.made(Check.RICH);
            for (int tick = 0; tick < 120; tick++) {
                for (int w = 0; w < z.count(0); w++) {
                    int freed = z.freed(w);
                    DOC.due("freed(" + w + ") at " + tick, freed, freedInFact(z, w));
                }
                z.ticks(1);
            }
            // 0 holds what all the others want.
            HangWatch y = Check.made("worker lock 0,get 0,rest 9;" + Check.times("worker rest 1,lock 0;", 7));
            y.ticks(1);
            DOC.due("all eight", y.freed(0), 8);
            DOC.due("itself alone: it ends with the lock", y.freed(3), 1);
            DOC.due("at once: not a tick later", y.count(2), 1);
            DOC.due("it is not let go in fact", y.worker(0, 0), 1);
        });
        DOC.says("Promise 21", "NONE: there is none such, it is not HELD UP.", () -> {
            HangWatch x = Check.made("worker get 0;worker rest 9;worker stop;");
            x.ticks(1);
            DOC.due("at rest", x.freed(1), -1);
            DOC.due("ended", x.freed(2), -1);
            DOC.due("worker 3", x.freed(3), -1);
            DOC.due("worker 8", x.freed(8), -1);
            DOC.due("worker 32", x.freed(32), -1);
            for (int far : FAR) {
                DOC.due("freed(" + far + ")", x.freed(far), -1);
            }
        });
    }

    /** The same by letting go and undoing. */
    private static int freedInFact(HangWatch x, int worker) {
        int before = hard(x);
        if (!x.free(worker)) {
            return -1;
        }
        int behind = hard(x);
        x.undo();
        return Integer.bitCount(before & ~behind);
    }

    private static int hard(HangWatch x) {
        int hard = 0;
        for (int w = 0; w < x.count(0); w++) {
            hard |= x.worker(w, 7) << w;
        }
        return hard;
    }

    private static void later() {
        DOC.says("Promise 22", "Behind n TICKS, 0 to 200, what (5 to 9 and 1, as count()).", () -> {
            HangWatch x = Check.made(Check.RICH);
            HangWatch y = Check.made(Check.RICH);
            for (int n = 0; n <= 200; n++) {
                for (int what : new int[] {1, 5, 6, 7, 8, 9}) {
                    DOC.due("later(" + n + ", " + what + ")", x.later(n, what), y.count(what));
                }
                y.ticks(1);
            }
            DOC.due("nothing has changed", Check.all(x).equals(Check.all(Check.made(Check.RICH))), true);
            DOC.due("no act", x.count(12), 0);
            // As all is now: from any tick on.
            for (int from = 1; from <= 60; from++) {
                x.ticks(1);
                y = Check.made(Check.RICH);
                y.ticks(from);
                y.ticks(10);
                for (int what : new int[] {1, 5, 6, 7, 8, 9}) {
                    DOC.due("later(10, " + what + ") at " + from, x.later(10, what), y.count(what));
                }
            }
            DOC.due("no workers", new HangWatch().later(200, 5), 0);
        });
        DOC.says("Promise 22", "NONE: another n, what.", () -> {
            HangWatch x = Check.made("worker rest 9;");
            for (int far : FAR) {
                DOC.due("later(" + far + ", 5)", x.later(far, 5), -1);
                DOC.due("later(5, " + far + ")", x.later(5, far), -1);
            }
            for (int what : new int[] {0, 2, 3, 4, 10, 11, 12, 13, 14}) {
                DOC.due("later(5, " + what + ")", x.later(5, what), -1);
                DOC.due("later(0, " + what + ")", x.later(0, what), -1);
            }
        });
    }

    private static void ends() {
        DOC.says("Promise 23", "Behind how many TICKS, 0 to 200, a WORKER has ENDED.", () -> {
            HangWatch x = Check.made("worker stop;worker rest 99,rest 99,rest 2;worker rest 99,rest 99,rest 3;");
            DOC.due("1", x.ends(0), 1);
            DOC.due("200", x.ends(1), 200);
            x.ticks(1);
            DOC.due("0: it has", x.ends(0), 0);
            DOC.due("200, too", x.ends(2), 200);
            DOC.due("nothing has passed", x.count(2), 1);
            HangWatch y = Check.made("worker get 0;worker rest 5,put 0;");
            DOC.due("behind what the other does", y.ends(0), 7);
            DOC.due("in one tick with its step", y.ends(1), 6);
            // As all is now: what lies in a pipe, what has come, who holds, how far a step is.
            HangWatch z = Check.made("pipe 0 2;worker put 0,put 0,send 1,lock 0,rest 3,free 0,rest 9;worker rest 9,get 0,get 0,await 0,lock 0;");
            for (int tick = 0; tick <= 20; tick++) {
                DOC.due("ends(0) at " + tick, z.ends(0), Math.max(0, 17 - tick));
                DOC.due("ends(1) at " + tick, z.ends(1), Math.max(0, 13 - tick));
                z.ticks(1);
            }
        });
        DOC.says("Promise 23", "NONE: by then not, there is none such.", () -> {
            HangWatch x = Check.made("worker rest 99,rest 99,rest 3;worker get 0;worker again;");
            DOC.due("201", x.ends(0), -1);
            DOC.due("hard", x.ends(1), -1);
            DOC.due("again and again", x.ends(2), -1);
            DOC.due("worker 3", x.ends(3), -1);
            DOC.due("worker 8", x.ends(8), -1);
            for (int far : FAR) {
                DOC.due("ends(" + far + ")", x.ends(far), -1);
            }
            DOC.due("no workers", new HangWatch().ends(0), -1);
        });
    }

    private static void told() {
        String words = "How many STALLS would be told in n TICKS, 1 to 200, were WINDOW another number, as all is now.";
        DOC.says("Promise 24", words, () -> {
            String text = "window 9;grace 3;worker rest 5,again;worker lock 0,lock 0;worker get 0,again;worker rest 12,put 0,again;";
            for (int window : new int[] {1, 2, 8, 9, 10, 49, 50}) {
                HangWatch x = Check.made(text);
                x.ticks(20);
                int one = x.told(1, window);
                int all = x.told(200, window);
                DOC.due("window stays", x.count(3), 9);
                DOC.due("nothing passes", x.count(2), 20);
                DOC.due("no act", x.count(12), 1);
                x.within(false, window);
                DOC.due("told(1, " + window + ")", one, x.ticks(1));
                DOC.due("told(200, " + window + ")", all, one + x.ticks(199));
            }
            for (int tick = 1; tick <= 60; tick++) {
                HangWatch x = Check.made(Check.RICH);
                x.ticks(tick);
                String before = Check.all(x);
                int stalls = x.told(20, 2);
                DOC.due("nothing has changed", Check.all(x).equals(before), true);
                x.within(false, 2);
                DOC.due("told(20, 2) at " + tick, stalls, x.ticks(20));
            }
            HangWatch y = Check.made("window 50;worker get 0;");
            DOC.due("one tick, the least window", y.told(1, 1), 1);
            DOC.due("49 ticks, the greatest", y.told(49, 50), 0);
            DOC.due("50 ticks, the greatest", y.told(50, 50), 1);
            y.ticks(50);
            DOC.due("what is told is told, with another window, too", y.told(200, 1), 0);
            DOC.due("no workers", new HangWatch().told(200, 1), 0);
        });
        DOC.says("Promise 24", "NONE: others.", () -> {
            HangWatch x = Check.made("worker get 0;");
            for (int far : FAR) {
                DOC.due("told(" + far + ", 4)", x.told(far, 4), -1);
                DOC.due("told(4, " + far + ")", x.told(4, far), -1);
            }
            DOC.due("no tick", x.told(0, 4), -1);
            DOC.due("window 0", x.told(4, 0), -1);
            DOC.due("window 51", x.told(4, 51), -1);
        });
    }

    private static void fewest() {
        String words = "The fewest WORKERS that are HELD UP now to be LET GO, one behind the other, rising, so that none is HARD then: how many";
        DOC.says("Promise 25", words, () -> {
            DOC.due("no workers", new HangWatch().fewest(false), 0);
            DOC.due("none is hard", Check.made("worker get 0;worker rest 9,put 0;").fewest(false), 0);
            DOC.due("all eight", Check.made(Check.times("worker get 0;", 8)).fewest(false), 8);
            // 0 has ended with the lock that all want: one that goes on will do, of those that end with it all must go.
            String ends = "worker rest 1,lock 0;";
            HangWatch x = Check.made("worker lock 0;" + ends + ends + "worker rest 1,lock 0,rest 9;");
            x.ticks(1);
            DOC.due("one that goes on", x.fewest(false), 1);
            HangWatch y = Check.made("worker lock 0;" + ends + ends + ends);
            y.ticks(1);
            DOC.due("all that end, one behind the other", y.fewest(false), 3);
            DOC.due("nobody is let go in fact", y.count(7), 3);
            HangWatch z = Check.made(Check.RICH);
            for (int tick = 0; tick < 120; tick++) {
                fewestInFact(z, z.fewest(false), z.fewest(true));
                z.ticks(1);
            }
            DOC.due("no act", y.count(12), 1);
        });
        DOC.says("Promise 25", "or (bits) the least set of so many, as bits.", () -> {
            DOC.due("no workers", new HangWatch().fewest(true), 0);
            DOC.due("none is hard", Check.made("worker get 0;worker rest 9,put 0;").fewest(true), 0);
            DOC.due("all eight", Check.made(Check.times("worker get 0;", 8)).fewest(true), 255);
            HangWatch x = Check.made("worker await 1,rest 9,send 1;worker await 0,rest 9,send 0;");
            DOC.due("either of two: the least", x.fewest(true), 1);
            // 0 and 3 would do, 1 and 3, and 1 and 2, of which the bits are least.
            HangWatch y = Check.made("worker rest 2,lock 0,await 3;worker rest 2,lock 0,work 5,send 2;"
                + "worker rest 2,lock 1,await 1;worker rest 2,lock 1,work 5,send 0;worker lock 0,lock 1;");
            y.ticks(2);
            DOC.due("two", y.fewest(false), 2);
            DOC.due("1 and 2", y.fewest(true), 6);
        });
        DOC.says("Promise 25", "NONE: there are none such.", () -> {
            HangWatch x = Check.made("worker lock 0,lock 0,lock 0;worker get 0;");
            x.ticks(1);
            DOC.due("hard again behind it", x.fewest(false), -1);
            DOC.due("no set", x.fewest(true), -1);
        });
    }

    /** No smaller set, and none of so many with fewer bits, leaves none hard when let go and undone. */
    private static void fewestInFact(HangWatch x, int many, int set) {
        int best = -1;
        for (int bits = 0; bits < 1 << x.count(0); bits++) {
            if ((best < 0 || Integer.bitCount(bits) < Integer.bitCount(best)) && leavesNoneHard(x, bits)) {
                best = bits;
            }
        }
        DOC.due("fewest(true) at " + x.count(2), set, best);
        DOC.due("fewest(false) at " + x.count(2), many, best < 0 ? -1 : Integer.bitCount(best));
    }

    private static boolean leavesNoneHard(HangWatch x, int bits) {
        int acts = 0;
        boolean all = true;
        for (int w = 0; w < x.count(0); w++) {
            if ((bits >> w & 1) == 1) {
                boolean free = x.free(w);
                all &= free;
                acts += free ? 1 : 0;
            }
        }
        boolean none = all && x.count(7) == 0;
        for (int i = 0; i < acts; i++) {
            x.undo();
        }
        return none;
    }

    private static void image() {
        String words = "Image k (0 .. 2) is all that is (the tape, the FAULT, too, but for what can be UNDONE), as it is now: true";
        DOC.says("Promise 26", words, () -> {
            HangWatch x = Check.made("window 1;worker get 0;worker rest 99;");
            for (int k = 0; k <= 2; k++) {
                x.ticks(1);
                DOC.due("image(" + k + ")", x.image(k), true);
                DOC.due("what can be undone stays", x.count(12), k + 1);
            }
            x.ticks(200);
            for (int k = 2; k >= 0; k--) {
                x.again(k);
                DOC.due("image " + k + " is its own", x.count(2), k + 1);
            }
            x.image(2);
            x.again(2);
            DOC.due("taken anew", x.count(2), 1);
            x.again(1);
            DOC.due("the others stay", x.count(2), 2);
            HangWatch y = new HangWatch();
            DOC.due("of a new object", y.image(0), true);
            Check.tell(y, "window 9;worker stop;");
            y.again(0);
            DOC.due("no workers", y.count(0), 0);
            DOC.due("window", y.count(3), 4);
            tapeAndFault();
        });
        DOC.says("Promise 26", "; false for another k.", () -> {
            HangWatch x = Check.made("worker rest 9;");
            x.image(0);
            x.ticks(1);
            for (int k : new int[] {Integer.MIN_VALUE, -1, 3, 32, Integer.MAX_VALUE}) {
                DOC.due("image(" + k + ")", x.image(k), false);
                DOC.due("none such", x.again(k), false);
            }
            x.again(0);
            DOC.due("image 0 stays", x.count(2), 0);
            DOC.due("no image 1", x.again(1), false);
            DOC.due("no image 2", x.again(2), false);
        });
    }

    private static void tapeAndFault() {
        HangWatch x = new HangWatch();
        Check.tell(x, "window 0;");
        Check.load(x, "worker stop,stop;");
        x.image(0);
        Check.load(x, "worker work 5;   ");
        x.text();
        x.again(0);
        DOC.due("the fault", x.fault(0), 2);
        DOC.due("its place", x.fault(1), 7);
        DOC.due("bytes", x.count(13), 17);
        DOC.due("the tape", x.text(), 1);
        DOC.due("its own bytes", x.worker(0, 13), 2);
    }

    /** Quite another text, with as many workers as can be, goes its way; then a wrong one comes. */
    private static void tellOther(HangWatch x) {
        String rests = "worker " + Check.times("rest 2,", 9) + "again;";
        String text = "window 2;grace 2;pipe 0 9;pipe 3 9;worker " + Check.times("put 0,", 6) + Check.times("put 3,", 5) + "put 3;"
            + "worker lock 0,lock 1,lock 2,send 0;" + Check.times(rests, 6);
        DOC.due("another text", Check.tell(x, text), 8);
        x.ticks(40);
        Check.tell(x, "wrong");
        x.feed(0, 0, 0, 0, 0);
        Check.all(x);
    }

    private static void again() {
        DOC.says("Promise 27", "All that is is as image k has it", () -> {
            HangWatch x = Check.made("window 2;grace 3;pipe 0 9;worker put 0,send 1,lock 0,lock 0;worker rest 99;");
            x.ticks(7);
            x.image(1);
            for (int i = 0; i < 2; i++) {
                Check.tell(x, "window 9;grace 9;pipe 0 2;worker lock 5,rest 3,stop;worker stop;worker put 0,rest 9;");
                x.ticks(9);
                DOC.due("again(1)", x.again(1), true);
                int[] counts = {2, 0, 7, 2, 3, 1, 1, 1, 0, 1, 2, 2, 0, 0};
                for (int what = 0; what < counts.length; what++) {
                    DOC.due("count(" + what + ")", x.count(what), counts[what]);
                }
                int[] first = {3, 1, 0, 0, 4, 3, 1, 1, 0, 0, 0, 1, 1, 4};
                for (int what = 0; what < first.length; what++) {
                    DOC.due("worker(0, " + what + ")", x.worker(0, what), first[what]);
                }
                DOC.due("step", x.step(0, 1, false), 5);
                DOC.due("lock 0", x.holder(0), 0);
                DOC.due("lock 5", x.holder(5), -1);
                DOC.due("room", x.pipe(0, true), 9);
                DOC.due("pipe", x.pipe(0, false), 1);
                DOC.due("mail", x.messages(1, 0), 1);
                DOC.stall(x, 0, 5, 0, 0, 0, 1);
                DOC.stall(x, 1, 5, 1, 2, -1, -1);
                DOC.due("what was told is told", x.ticks(9), 0);
                DOC.due("the tick goes on", x.count(2), 16);
            }
            for (int tick = 1; tick <= 60; tick++) {
                HangWatch y = Check.made(Check.RICH);
                y.ticks(tick);
                String before = Check.all(y);
                y.image(2);
                tellOther(y);
                y.again(2);
                DOC.due("all at " + tick, Check.all(y).equals(before), true);
                HangWatch z = Check.made(Check.RICH);
                z.ticks(tick);
                z.ticks(30);
                y.ticks(30);
                DOC.due("it goes on as it would have", Check.all(y).equals(Check.all(z)), true);
            }
        });
        DOC.says("Promise 27", "(nothing can be UNDONE then): true", () -> {
            HangWatch x = Check.made("worker rest 99;");
            x.ticks(1);
            x.image(0);
            x.ticks(1);
            DOC.due("again", x.again(0), true);
            DOC.due("acts", x.count(12), 0);
            DOC.due("undo", x.undo(), -1);
            x.ticks(1);
            DOC.due("later acts can be", x.undo(), 0);
            DOC.due("tick", x.count(2), 1);
        });
        DOC.says("Promise 27", "; false if there is none such.", () -> {
            HangWatch x = Check.made("worker rest 99;");
            x.ticks(1);
            x.image(1);
            x.ticks(1);
            for (int k : new int[] {Integer.MIN_VALUE, -1, 0, 2, 3, Integer.MAX_VALUE}) {
                DOC.due("again(" + k + ")", x.again(k), false);
            }
            DOC.due("tick stays", x.count(2), 2);
            DOC.due("acts stay", x.count(12), 2);
            Check.tell(x, "worker stop;");
            DOC.due("an image outlasts a text", x.again(1), true);
            DOC.due("as it was", x.count(2), 1);
        });
    }
}
