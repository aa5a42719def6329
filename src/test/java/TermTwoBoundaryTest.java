/** Term 2: who waits for whom, stalls, ways, blockers, letting go; word by word, at its boundaries. */
public final class TermTwoBoundaryTest {
    private static final Sentences DOC = new Sentences("TermTwoBoundaryTest");
    private static final String TERM = "Term 2";

    public static void main(String[] args) {
        heldUp();
        waitsFor();
        can();
        freeToGo();
        late();
        neighbour();
        stallsTold();
        stallsKept();
        firstWay();
        blocker();
        blockerTies();
        lettingGo();
        DOC.finish(TERM);
    }

    private static void heldUp() {
        String words = "Of WORKERS that have not ENDED: one is HELD UP (and WAITS), if its STEP is LOCK, PUT, GET or AWAIT and could not be done now";
        DOC.says(TERM, words, () -> {
            String[] waiting = {"lock 0", "put 0", "get 1", "await 0"};
            for (String step : waiting) {
                HangWatch x = Check.made("worker lock 0,put 0,rest 9;worker rest 2," + step + ";");
                x.ticks(2);
                DOC.due("held up at " + step, x.worker(1, 6), 1);
            }
            String[] going = {"work 1", "lock 1", "free 0", "put 1", "get 0", "send 0", "await 0", "rest 1", "again", "stop"};
            for (String step : going) {
                HangWatch x = Check.made("worker lock 0,put 0,send 1,rest 9;worker rest 3," + step + ";");
                x.ticks(3);
                DOC.due("not held up at " + step, x.worker(1, 6), 0);
            }
            HangWatch x = Check.made("worker get 0;worker lock 0,stop,get 0;");
            DOC.due("now: ahead of any tick", x.worker(0, 6), 1);
            x.ticks(2);
            DOC.due("not one that ended", x.worker(1, 6), 0);
        });
        DOC.says(TERM, "(a LOCK that it HOLDS itself, too)", () -> {
            HangWatch x = Check.made("worker lock 0,lock 0;");
            DOC.due("not yet its own", x.worker(0, 6), 0);
            x.ticks(1);
            DOC.due("its own", x.worker(0, 6), 1);
        });
    }

    private static void waitsFor() {
        DOC.says(TERM, "It WAITS FOR: LOCK: the one that HOLDS it", () -> {
            HangWatch x = Check.made("worker rest 1,lock 5;worker rest 9;" + Check.times("worker stop;", 5)
                + "worker lock 5,rest 9,lock 5;");
            x.ticks(1);
            DOC.due("worker 7 holds it", x.waits(0), 128);
            HangWatch y = Check.made("worker lock 0,lock 0;");
            y.ticks(1);
            DOC.due("itself", y.waits(0), 1);
        });
        DOC.says(TERM, "PUT: all others that CAN GET from the PIPE", () -> {
            HangWatch x = Check.made("worker put 3,put 3,get 3;worker rest 9,get 3;worker rest 9,get 2;worker rest 9,put 3;worker rest 9,get 3;");
            x.ticks(1);
            DOC.due("1 and 4, not itself", x.waits(0), 2 + 16);
        });
        DOC.says(TERM, "GET: all others that CAN PUT into it", () -> {
            HangWatch x = Check.made("worker get 3,put 3;worker rest 9,put 3;worker rest 9,put 2;worker rest 9,get 3;worker rest 9,put 3;");
            DOC.due("1 and 4, not itself", x.waits(0), 2 + 16);
        });
        DOC.says(TERM, "AWAIT: the other one, if it CAN SEND to it.", () -> {
            HangWatch x = Check.made("worker await 2;worker rest 9,send 0;worker rest 9,send 0;");
            DOC.due("it can", x.waits(0), 4);
            HangWatch y = Check.made("worker await 2;worker rest 9,send 0;worker rest 9,send 1;");
            DOC.due("it can't, though another can", y.waits(0), 0);
        });
    }

    private static void can() {
        DOC.says(TERM, "(CAN: it has not ENDED, and such a STEP is its own or one behind that", () -> {
            can("its own", "worker get 0;worker put 0;", 0, 2);
            can("the next", "worker get 0;worker rest 9,put 0;", 0, 2);
            can("the 12th", "worker get 0;worker " + Check.times("rest 9,", 11) + "put 0;", 0, 2);
            can("one ahead of its own", "worker get 0,get 0;worker put 0,rest 9;", 2, 0);
            can("ended", "worker get 0,get 0;worker put 0;", 2, 0);
            can("ended by a stop ahead of it", "worker get 0;worker stop,put 0;", 1, 0);
        });
        DOC.says(TERM, ", up to the first AGAIN or STOP, or to the last", () -> {
            can("behind again", "worker get 0;worker rest 9,again,put 0;", 0, 0);
            can("behind stop", "worker get 0;worker rest 9,stop,put 0;", 0, 0);
            can("the last", "worker get 0;worker rest 9,rest 9,put 0;", 0, 2);
            can("right ahead of stop", "worker get 0;worker rest 9,put 0,stop;", 0, 2);
            can("right ahead of again", "worker get 0;worker rest 9,put 0,again;", 0, 2);
            can("its own is stop", "worker get 0;worker rest 1,stop,put 0,again;", 1, 0);
        });
        DOC.says(TERM, "; if AGAIN comes first, or any ahead of that.)", () -> {
            can("the first of all", "worker get 0,get 0;worker put 0,rest 9,again;", 2, 2);
            can("again is its own", "worker get 0,get 0;worker put 0,again;", 2, 2);
            can("stop comes first", "worker get 0,get 0;worker put 0,rest 9,stop,again;", 2, 0);
            can("none comes", "worker get 0,get 0;worker put 0,rest 9,rest 9;", 2, 0);
            can("behind again still not", "worker get 0;worker rest 1,rest 9,again,put 0;", 1, 0);
        });
        DOC.says(TERM, "such a STEP is its own", TermTwoBoundaryTest::suchSteps);
        DOC.says(TERM, "Who HOLDS a LOCK may have ENDED.", () -> {
            HangWatch x = Check.made("worker rest 1,lock 0;worker lock 0;");
            x.ticks(1);
            DOC.due("ended", x.worker(1, 0), -1);
            DOC.due("waited for", x.waits(0), 2);
            DOC.due("hard", x.worker(0, 7), 1);
        });
    }

    /** Whatever one waits at, of all steps that another one can have just those that it needs count. */
    private static void suchSteps() {
        String[] waits = {"put 0", "put 1", "put 2", "put 3", "get 0", "get 1", "get 2", "get 3", "await 1"};
        String[] needs = {"get 0", "get 1", "get 2", "get 3", "put 0", "put 1", "put 2", "put 3", "send 0"};
        StringBuilder steps = new StringBuilder("work 1,lock 0,free 0,rest 1,again,stop,await 0");
        for (int k = 0; k < 8; k++) {
            steps.append(",send ").append(k == 1 ? 0 : k).append(k < 4 ? ",put " + k + ",get " + k + ",lock " + k : "");
        }
        for (int i = 0; i < waits.length; i++) {
            for (String step : steps.toString().split(",")) {
                // Worker 1 comes to the step behind a rest, worker 0 fills the pipe first where it puts.
                String fills = waits[i].startsWith("put") ? waits[i] + "," : "";
                HangWatch x = Check.made("worker " + fills + waits[i] + ";worker rest 9," + step + ";" + Check.times("worker stop;", 6));
                x.ticks(1);
                DOC.due("at " + waits[i] + ", another can " + step, x.waits(0), step.equals(needs[i]) ? 2 : 0);
                x.ticks(50);
                boolean ended = x.worker(1, 0) == -1;
                DOC.due("ended, at " + waits[i] + " behind " + step, ended && x.worker(0, 6) == 1 ? x.waits(0) : 0, 0);
            }
        }
    }

    /** For whom worker 0, which is held up behind some ticks, waits. */
    private static void can(String title, String text, int ticks, int want) {
        HangWatch x = Check.made(text);
        x.ticks(ticks);
        DOC.due(title + ": held up", x.worker(0, 6), 1);
        DOC.due(title, x.waits(0), want);
    }

    private static void freeToGo() {
        DOC.says(TERM, "FREE TO GO are all that are not HELD UP (and have not ENDED)", () -> {
            HangWatch x = Check.made("worker work 9;worker rest 9;worker stop;worker get 0;");
            DOC.due("three", x.count(6), 3);
            x.ticks(1);
            DOC.due("without the one that ended", x.count(6), 2);
            HangWatch y = Check.made("worker rest 2,lock 0;worker lock 0;worker get 0;");
            y.ticks(2);
            DOC.due("to wait for one that ended frees not", y.count(6), 0);
        });
        DOC.says(TERM, ", then all of which any that they WAIT FOR is FREE TO GO, and so on.", () -> {
            HangWatch x = Check.made("worker get 0;worker rest 9,put 0;worker get 1,put 0;");
            DOC.due("one of two will do", x.worker(0, 7), 0);
            DOC.due("the other is hard", x.worker(2, 7), 1);
            StringBuilder rising = new StringBuilder();
            StringBuilder falling = new StringBuilder("worker work 9,send 1;");
            for (int w = 0; w < 7; w++) {
                rising.append("worker await ").append(w + 1).append(w == 0 ? ";" : ",send " + (w - 1) + ";");
                falling.append("worker await ").append(w).append(w == 6 ? ";" : ",send " + (w + 2) + ";");
            }
            rising.append("worker work 9,send 6;");
            DOC.due("a chain of eight", Check.made(rising.toString()).count(6), 8);
            DOC.due("a chain of eight the other way", Check.made(falling.toString()).count(6), 8);
        });
        DOC.says(TERM, "HARD are all others that have not ENDED.", () -> {
            HangWatch x = Check.made("worker get 0;worker await 0,put 0;worker stop;worker rest 9;");
            DOC.due("at once, however short", x.count(7), 2);
            x.ticks(1);
            int[] want = {1, 1, 0, 0};
            for (int w = 0; w < 4; w++) {
                DOC.due("worker " + w, x.worker(w, 7), want[w]);
            }
        });
    }

    private static void late() {
        DOC.says(TERM, "SOFT is one that is HELD UP, not HARD, and QUIET WINDOW TICKS or more", () -> {
            HangWatch x = Check.made("window 3;worker get 0;worker rest 99,put 0;worker get 1;");
            int[] want = {0, 0, 0, 1, 1};
            for (int tick = 0; tick < want.length; tick++) {
                DOC.due("quiet " + tick, x.worker(0, 8), want[tick]);
                DOC.due("at rest is not held up", x.worker(1, 8), 0);
                DOC.due("hard is not soft", x.worker(2, 8), 0);
                x.ticks(1);
            }
        });
        DOC.says(TERM, "SLOW one that is at REST and QUIET WINDOW and GRACE TICKS or more together", () -> {
            HangWatch x = Check.made("window 3;grace 2;worker rest 7,work 9;worker get 0;worker rest 6,put 0,put 0;");
            int[] want = {0, 0, 0, 0, 0, 1, 1, 0};
            for (int tick = 0; tick < want.length; tick++) {
                DOC.due("quiet " + tick, x.worker(0, 9), want[tick]);
                DOC.due("waiting is not at rest", x.worker(1, 9), 0);
                x.ticks(1);
            }
            HangWatch y = Check.made("window 1;grace 0;worker rest 2;");
            y.ticks(1);
            DOC.due("grace 0", y.worker(0, 9), 1);
        });
        DOC.says(TERM, "; MISSED is one that is HARD, SOFT or SLOW.", () -> {
            HangWatch x = Check.made("window 1;grace 0;worker get 0;worker get 1;worker rest 99,put 1;worker work 9;");
            DOC.due("a stall of each of the three, and no other", x.ticks(5), 3);
        });
    }

    private static void neighbour() {
        String words = "THE NEIGHBOUR of a WORKER: the next one, rising, and round, that has not ENDED and is not HARD";
        DOC.says(TERM, words, () -> {
            HangWatch x = Check.made("worker get 3;worker rest 9;worker stop;worker get 3;worker get 0;worker rest 9,put 0;worker stop;");
            x.ticks(1);
            int[] want = {1, 4, 4, 4, 5, 1, 1};
            for (int w = 0; w < want.length; w++) {
                DOC.due("neighbour of " + w, x.worker(w, 11), want[w]);
            }
            HangWatch y = Check.made(Check.times("worker rest 9;", 8));
            DOC.due("round, from 7 to 0", y.worker(7, 11), 0);
        });
        DOC.says(TERM, "(none, if there is none but itself).", () -> {
            DOC.due("alone", Check.made("worker rest 9;").worker(0, 11), -1);
            HangWatch x = Check.made("worker stop;worker rest 9;worker get 0;");
            x.ticks(1);
            DOC.due("all others ended or hard", x.worker(1, 11), -1);
        });
    }

    private static void stallsTold() {
        DOC.says(TERM, "A STALL is told behind each TICK, of WORKERS rising", () -> {
            HangWatch x = Check.made("window 1;grace 0;worker rest 9;worker get 0;worker get 1;worker rest 9,put 1;");
            DOC.due("all in tick 1", x.ticks(1), 4);
            for (int k = 0; k < 4; k++) {
                DOC.due("worker of stall " + k, x.stall(k, 1), k);
                DOC.due("tick of stall " + k, x.stall(k, 0), 1);
            }
            // What 1 waits for comes in the same tick, behind it: behind the tick it is not held up.
            HangWatch y = Check.made("window 2;worker work 9;worker get 0;worker rest 1,put 0,rest 9;");
            DOC.due("as all is behind the tick", y.ticks(2), 0);
            HangWatch z = Check.made("window 1;worker get 0;");
            DOC.due("none told without a tick", z.count(11), 0);
        });
        String kinds = ", that are HARD and QUIET WINDOW TICKS or more, SOFT, or SLOW, of that KIND (0 HARD, 1 SOFT, 2 SLOW)";
        DOC.says(TERM, kinds, () -> {
            HangWatch x = Check.made("window 3;grace 2;worker get 0;worker get 1;worker rest 99,put 1;");
            DOC.due("2 ticks", x.ticks(2), 0);
            DOC.due("the 3rd: hard and soft", x.ticks(1), 2);
            DOC.due("hard", x.stall(0, 2), 0);
            DOC.due("soft", x.stall(1, 2), 1);
            DOC.due("the 4th", x.ticks(1), 0);
            DOC.due("the 5th: slow", x.ticks(1), 1);
            DOC.due("slow", x.stall(2, 2), 2);
        });
        DOC.says(TERM, ", if none of the same KIND was told of it since its latest BEAT", () -> {
            HangWatch y = Check.made("window 1;worker lock 0,lock 0,lock 0;");
            DOC.due("once", y.ticks(200), 1);
            y.free(0);
            DOC.due("anew behind a beat", y.ticks(200), 1);
            HangWatch z = Check.made("window 1;grace 50;worker get 0;worker rest 5,put 1,put 1,put 0;");
            DOC.due("soft", z.ticks(5), 1);
            DOC.due("of another kind without a beat", z.ticks(1), 1);
            DOC.due("worker", z.stall(1, 1), 0);
            DOC.due("kind", z.stall(1, 2), 0);
            DOC.due("the other one, too", z.ticks(1), 1);
            DOC.due("and each once", z.ticks(200), 0);
        });
        DOC.says(TERM, ": with the TICK, the WORKER, KIND, its BLOCKER, its NEIGHBOUR.", () -> {
            HangWatch x = Check.made("window 2;worker lock 0,get 0;worker rest 9;worker rest 1,lock 0;");
            x.ticks(3);
            DOC.stall(x, 0, 3, 0, 0, 0, 1);
            DOC.stall(x, 1, 3, 2, 0, 0, 1);
        });
    }

    private static void stallsKept() {
        DOC.says(TERM, "The latest 30 are kept.", () -> {
            // Told in the ticks 1, 4, 7 and so on.
            HangWatch x = Check.made("window 1;grace 0;worker rest 2,again;");
            x.ticks(88);
            DOC.due("30 are told", x.count(11), 30);
            DOC.due("30 are kept", x.count(10), 30);
            DOC.due("the eldest", x.stall(0, 0), 1);
            DOC.due("the latest", x.stall(29, 0), 88);
            x.ticks(3);
            DOC.due("31 are told", x.count(11), 31);
            DOC.due("30 of them are kept", x.count(10), 30);
            DOC.due("the second is the eldest now", x.stall(0, 0), 4);
            DOC.due("the 31st", x.stall(29, 0), 91);
            DOC.due("no more", x.stall(30, 0), -1);
            x.ticks(200);
            for (int k = 0; k < 30; k++) {
                DOC.due("round and round, " + k, x.stall(k, 0), 1 + 3 * (97 - 30 + k));
            }
        });
    }

    private static void firstWay() {
        DOC.says(TERM, "FIRST WAY of a WORKER that is HELD UP: to the least that it WAITS FOR, on and on", () -> {
            HangWatch x = Check.made("worker get 0;worker rest 9;worker get 1,put 0;worker rest 9,put 0,put 1;worker rest 9,put 1;");
            way(x, 0, 0, 2, 3);
            DOC.due("one that is not held up has none", x.way(1, -1), -1);
        });
        DOC.says(TERM, ", till one comes that is not HELD UP", () -> {
            HangWatch x = Check.made("worker get 0;worker rest 9,put 0;");
            way(x, 0, 0, 1);
        });
        DOC.says(TERM, ", or waits for nobody", () -> {
            HangWatch x = Check.made("worker get 0;worker get 1,put 0;");
            way(x, 0, 0, 1);
            way(x, 1, 1);
            StringBuilder eight = new StringBuilder();
            for (int w = 0; w < 7; w++) {
                eight.append("worker await ").append(w + 1).append(w == 0 ? ";" : ",send " + (w - 1) + ";");
            }
            HangWatch y = Check.made(eight + "worker get 0,send 6;");
            way(y, 0, 0, 1, 2, 3, 4, 5, 6, 7);
            DOC.due("eight without a ring", y.ring(0), 0);
        });
        DOC.says(TERM, ", or has ENDED", () -> {
            HangWatch x = Check.made("worker rest 1,lock 0;worker lock 0;");
            x.ticks(1);
            way(x, 0, 0, 1);
        });
        DOC.says(TERM, ", or comes a second time.", () -> {
            HangWatch x = Check.made("worker get 0,put 1;worker get 1,put 0;");
            way(x, 0, 0, 1);
            way(x, 1, 1, 0);
            way(chain(8), 0, 0, 1, 2, 3, 4, 5, 6, 7);
        });
        DOC.says(TERM, "A RING, if one comes a second time: from its first time on.", () -> {
            HangWatch x = Check.made("worker await 1;worker await 2,send 0,send 3;worker await 3,send 1;worker await 1,send 2;worker get 0;");
            DOC.due("from 1 on", x.ring(0), 3);
            DOC.due("the whole way", x.ring(1), 3);
            DOC.due("none comes a second time", x.ring(4), 0);
            DOC.due("all eight", chain(8).ring(5), 8);
            HangWatch y = Check.made("worker lock 0,lock 0;");
            y.ticks(1);
            DOC.due("itself alone", y.ring(0), 1);
        });
    }

    private static void way(HangWatch x, int w, int... want) {
        DOC.due("length of the way of " + w, x.way(w, -1), want.length);
        for (int k = 0; k < want.length; k++) {
            DOC.due("way of " + w + " at " + k, x.way(w, k), want[k]);
        }
        DOC.due("behind the way of " + w, x.way(w, want.length), -1);
    }

    /** A ring of so many, each awaiting the next. */
    private static HangWatch chain(int many) {
        StringBuilder text = new StringBuilder();
        for (int w = 0; w < many; w++) {
            text.append("worker await ").append((w + 1) % many).append(",send ").append((w + many - 1) % many).append(';');
        }
        return Check.made(text.toString());
    }

    private static void blocker() {
        String most = "BLOCKER of a WORKER: of all that are HELD UP by whose LETTING GO, alone, most WORKERS that are HARD now would not be so";
        DOC.says(TERM, most, () -> {
            // 0 is the quietest and frees itself alone; 2 frees itself, 1 and 3.
            HangWatch x = Check.made("worker get 3;worker rest 3,lock 0;worker lock 0,work 1,get 3,rest 9;worker rest 3,lock 0;worker get 0;worker rest 9,put 0;");
            x.ticks(4);
            int[] want = {2, 2, 2, 2, 2, -1};
            for (int w = 0; w < want.length; w++) {
                DOC.due("blocker of " + w, x.worker(w, 10), want[w]);
            }
            // The same, but no stall has been told yet.
            HangWatch z = Check.made("window 50;worker get 3;worker rest 3,lock 0;worker lock 0,work 1,get 3,rest 9;worker rest 3,lock 0;");
            z.ticks(4);
            DOC.due("without a stall", z.worker(0, 10), 2);
            z.free(2);
            DOC.due("as all is now", z.worker(0, 10), 0);
            z.undo();
            DOC.due("and again", z.worker(0, 10), 2);
            // Either of 0 and 1 would go, but not the other one with it.
            HangWatch y = Check.made("worker get 0;worker get 1;");
            DOC.due("alone", y.worker(1, 10), 0);
        });
        DOC.says(TERM, "; if that WORKER is HARD, of HARD ones alone", () -> {
            // Nobody's letting go frees any; 0, which is soft, is the quietest.
            HangWatch x = Check.made("worker get 0;worker rest 99,put 0;worker lock 0,lock 0,lock 0;");
            x.ticks(5);
            DOC.due("of a hard one", x.worker(2, 10), 2);
            DOC.due("of one that is not, of all", x.worker(0, 10), 0);
        });
        DOC.says(TERM, "; NONE, if it is not HELD UP.", () -> {
            HangWatch x = Check.made("worker get 0;worker rest 9;worker stop;");
            x.ticks(1);
            DOC.due("held up", x.worker(0, 10), 0);
            DOC.due("at rest", x.worker(1, 10), -1);
            DOC.due("ended", x.worker(2, 10), -1);
        });
    }

    private static void blockerTies() {
        DOC.says(TERM, ", the one that is QUIET longest", () -> {
            HangWatch x = Check.made("worker work 2,get 0;worker work 1,get 0;worker work 3,get 0;");
            x.ticks(5);
            for (int w = 0; w < 3; w++) {
                DOC.due("blocker of " + w, x.worker(w, 10), 1);
            }
        });
        DOC.says(TERM, ", of several the least", () -> {
            HangWatch x = Check.made("worker work 2,get 0;worker work 1,get 0;worker work 1,get 0;");
            x.ticks(5);
            for (int w = 0; w < 3; w++) {
                DOC.due("blocker of " + w, x.worker(w, 10), 1);
            }
        });
    }

    private static void lettingGo() {
        DOC.says(TERM, "LETTING GO of a WORKER that is HELD UP: its STEP is done, whatever it needs", () -> {
            HangWatch x = Check.made("worker lock 0,lock 0,put 0,put 0,get 1,await 1,stop;worker rest 9;");
            x.ticks(1);
            DOC.due("lock", x.free(0), true);
            DOC.due("behind lock", x.worker(0, 0), 2);
            x.ticks(1);
            DOC.due("put", x.free(0), true);
            DOC.due("behind put", x.worker(0, 0), 4);
            DOC.due("get", x.free(0), true);
            DOC.due("behind get", x.worker(0, 0), 5);
            DOC.due("await", x.free(0), true);
            DOC.due("behind await", x.worker(0, 0), 6);
            DOC.due("steps done", x.worker(0, 5), 6);
            HangWatch y = Check.made("worker get 0;worker rest 9;");
            y.free(0);
            DOC.due("behind its last it ends", y.worker(0, 0), -1);
        });
        DOC.says(TERM, "(a LOCK is HELD by nobody else then but it", () -> {
            HangWatch x = Check.made("worker lock 0,rest 9,free 0;worker rest 1,lock 0,rest 9;worker lock 1,lock 1,rest 9;");
            x.ticks(1);
            x.free(1);
            DOC.due("it holds it", x.holder(0), 1);
            DOC.due("not the other one", x.worker(0, 12), 0);
            x.free(2);
            DOC.due("its own stays its own", x.holder(1), 2);
        });
        DOC.says(TERM, "; PUT, GET, AWAIT leave what lies there)", () -> {
            HangWatch x = Check.made("worker put 0,put 0,get 1,await 1,stop;worker rest 9;");
            x.ticks(1);
            x.free(0);
            DOC.due("put into a full pipe", x.pipe(0, false), 1);
            x.free(0);
            DOC.due("get from an empty pipe", x.pipe(1, false), 0);
            x.free(0);
            DOC.due("await without a message", x.messages(0, 1), 0);
            DOC.due("all three let go", x.worker(0, 0), 4);
        });
        DOC.says(TERM, ": it BEATS (QUIET is 0).", () -> {
            HangWatch x = Check.made("worker get 0,get 0;worker get 0;");
            x.ticks(9);
            x.free(0);
            DOC.due("it", x.worker(0, 4), 0);
            DOC.due("not the other one", x.worker(1, 4), 9);
            x.ticks(1);
            DOC.due("a tick later", x.worker(0, 4), 1);
        });
    }
}
