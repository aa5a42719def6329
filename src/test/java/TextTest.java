/** Promises 1 to 5: a new object, the tape, texts and their faults. */
public final class TextTest {
    private static final Check CHECK = new Check("TextTest");
    private static final int[] EDGES = {Integer.MIN_VALUE, -2, -1, 0, 1, 2, 5, 8, 14, 200, 201, Integer.MAX_VALUE};

    public static void main(String[] args) {
        newObject();
        tape();
        ends();
        texts();
        laterOnesStrike();
        tokens();
        faultOne();
        faultTwo();
        faultsThreeAndFour();
        faultFive();
        order();
        faultStays();
        CHECK.finish();
    }

    private static void newObject() {
        HangWatch x = new HangWatch();
        int[] counts = {0, 0, 0, 4, 6, 0, 0, 0, 0, 0, 0, 0, 0, 0};
        for (int what = 0; what < counts.length; what++) {
            CHECK.due("new count " + what, x.count(what), counts[what]);
        }
        CHECK.due("new fault", x.fault(0), 0);
        CHECK.due("new fault place", x.fault(1), -1);
        for (int pipe = 0; pipe < 4; pipe++) {
            CHECK.due("new room", x.pipe(pipe, true), 1);
            CHECK.due("new pipe", x.pipe(pipe, false), 0);
        }
        for (int lock = 0; lock < 6; lock++) {
            CHECK.due("new lock", x.holder(lock), -1);
        }
        for (int k : EDGES) {
            CHECK.due("new again " + k, x.again(k), false);
            CHECK.due("new free " + k, x.free(k), false);
            CHECK.due("new worker " + k, x.worker(k, 0), -1);
            CHECK.due("new waits " + k, x.waits(k), -1);
            CHECK.due("new way " + k, x.way(k, -1), -1);
            CHECK.due("new ring " + k, x.ring(k), -1);
            CHECK.due("new freed " + k, x.freed(k), -1);
            CHECK.due("new ends " + k, x.ends(k), -1);
            CHECK.due("new messages " + k, x.messages(k, k), -1);
            CHECK.due("new stall " + k, x.stall(k, 0), -1);
        }
        CHECK.due("new watch", x.watch(), -1);
        CHECK.due("new undo", x.undo(), -1);
        CHECK.due("new fewest", x.fewest(true), 0);
        CHECK.due("new later", x.later(200, 7), 0);
        CHECK.due("new told", x.told(200, 1), 0);
        CHECK.due("ticks without workers", x.ticks(3), 0);
        CHECK.due("tick without workers", x.count(2), 3);
        CHECK.due("undo without workers", x.undo(), 0);
        CHECK.due("tick undone", x.count(2), 0);
    }

    private static void tape() {
        HangWatch x = new HangWatch();
        for (int i = 1; i <= 40; i++) {
            CHECK.due("feed " + i, x.feed(0x20202020, 0x0a0a0a0a, 0x20202020, 0x20202020, 0x20202020), 20 * i);
        }
        CHECK.due("feed beyond", x.feed(1, 2, 3, 4, 5), -1);
        CHECK.due("bytes", x.count(13), 800);
        CHECK.due("end 781", x.end(781), 781);
        CHECK.due("feed to 801", x.feed(1, 2, 3, 4, 5), -1);
        CHECK.due("bytes stay", x.count(13), 781);
        CHECK.due("end 780", x.end(780), 780);
        CHECK.due("feed to 800", x.feed(0x20202020, 0x20202020, 0x20202020, 0x20202020, 0x2020203b), 800);
        CHECK.due("text", x.text(), -1);
        CHECK.due("the last byte is the lowest of the last number", x.fault(1), 799);
        CHECK.due("empty then", x.count(13), 0);
        x.feed(0x2020203b, 0, 0, 0, 0);
        x.text();
        CHECK.due("the highest first", x.fault(1), 3);
    }

    private static void ends() {
        HangWatch x = new HangWatch();
        CHECK.due("end 0 of none", x.end(0), 0);
        CHECK.due("end 1 of none", x.end(1), -1);
        x.feed(0x20202020, 0x20202020, 0x20202020, 0x20202020, 0x20202020);
        CHECK.due("end -1", x.end(-1), -1);
        CHECK.due("end least", x.end(Integer.MIN_VALUE), -1);
        CHECK.due("end 21", x.end(21), -1);
        CHECK.due("end most", x.end(Integer.MAX_VALUE), -1);
        CHECK.due("bytes stay", x.count(13), 20);
        CHECK.due("end 20", x.end(20), 20);
        CHECK.due("end 7", x.end(7), 7);
        CHECK.due("end 8 behind 7", x.end(8), -1);
        CHECK.due("bytes", x.count(13), 7);
    }

    private static void texts() {
        HangWatch x = new HangWatch();
        CHECK.due("empty text", x.text(), 0);
        CHECK.due("blank text", Check.tell(x, " \n "), 0);
        String steps = "work 50,lock 5,free 5,put 3,get 3,send 1,await 1,rest 99,again,stop";
        CHECK.due("all steps", Check.tell(x, "worker " + steps + ";worker stop;"), 2);
        int[] numbers = {50, 5, 5, 3, 3, 1, 1, 99, -1, -1};
        for (int k = 0; k < 10; k++) {
            CHECK.due("kind " + k, x.step(0, k, false), k);
            CHECK.due("number " + k, x.step(0, k, true), numbers[k]);
        }
        String eight = Check.times("worker " + Check.times("stop,", 11) + "stop;", 8);
        CHECK.due("eight workers of twelve steps", Check.tell(x, eight), 8);
        CHECK.due("steps", x.worker(7, 13), 12);
        x.ticks(5);
        x.within(false, 9);
        x.within(true, 9);
        CHECK.due("acts", x.count(12), 3);
        CHECK.due("another text", Check.tell(x, "worker rest 9;"), 1);
        CHECK.due("nothing undone", x.undo(), -1);
        CHECK.due("tick 0", x.count(2), 0);
        CHECK.due("window as at first", x.count(3), 4);
        CHECK.due("grace as at first", x.count(4), 6);
        Check.tell(x, "window 1;grace 0;worker rest 9;");
        CHECK.due("a stall", x.ticks(1) + x.ticks(1), 1);
        Check.tell(x, "pipe 2 7;");
        CHECK.due("no stalls", x.count(10) + x.count(11), 0);
        CHECK.due("room told", x.pipe(2, true), 7);
        Check.tell(x, ";");
        CHECK.due("a fault leaves all", x.pipe(2, true), 7);
        Check.tell(x, "");
        CHECK.due("room 1 without", x.pipe(2, true), 1);
    }

    private static void laterOnesStrike() {
        HangWatch x = Check.made("window 9;grace 8;pipe 1 2;window 3;pipe 1 4;grace 0;worker stop;pipe 0 9;worker stop;");
        CHECK.due("window", x.count(3), 3);
        CHECK.due("grace", x.count(4), 0);
        CHECK.due("pipe 1", x.pipe(1, true), 4);
        CHECK.due("pipe 0", x.pipe(0, true), 9);
        CHECK.due("workers", x.count(0), 2);
    }

    private static void tokens() {
        HangWatch x = new HangWatch();
        CHECK.due("no blanks needed", Check.tell(x, "window5;pipe2 07;worker work09,lock5;"), 1);
        CHECK.due("window 5", x.count(3), 5);
        CHECK.due("room 07", x.pipe(2, true), 7);
        CHECK.due("work 09", x.step(0, 0, true), 9);
        CHECK.due("blanks anywhere", Check.tell(x, "\n worker\n\nstop \n,  stop  ; \n"), 1);
        fault(x, "window 5\t;", 1, 8);
        fault(x, "window 5\r;", 1, 8);
        fault(x, "Window 5;", 1, 0);
        fault(x, "windows 5;", 1, 0);
        fault(x, "windo 5;", 1, 0);
        fault(x, "vindow 5;", 1, 0);
        fault(x, "windowz 5;", 1, 0);
        fault(x, "worker xork 1;", 1, 7);
        fault(x, "worker putz 1;", 1, 7);
        fault(x, "windowwindow 5;", 1, 0);
        fault(x, "work er stop;", 1, 0);
        fault(x, "worker st op;", 1, 7);
        fault(x, "window 1 2;", 1, 9);
        fault(x, "window 123;", 1, 7);
        fault(x, "window 99999999999999999;", 1, 7);
        fault(x, "window 5;\u00e9", 1, 9);
        fault(x, "window -5;", 1, 7);
    }

    private static void faultOne() {
        HangWatch x = new HangWatch();
        fault(x, "window", 1, 6);
        fault(x, "window 5", 1, 8);
        fault(x, "window 5   ", 1, 11);
        fault(x, " ;", 1, 1);
        fault(x, "window 5,", 1, 8);
        fault(x, "pipe 1;", 1, 6);
        fault(x, "pipe 1 2 3;", 1, 9);
        fault(x, "worker;", 1, 6);
        fault(x, "worker stop", 1, 11);
        fault(x, "worker stop,", 1, 12);
        fault(x, "worker stop,;", 1, 12);
        fault(x, "worker stop stop;", 1, 12);
        fault(x, "worker stop 1;", 1, 12);
        fault(x, "worker again 1;", 1, 13);
        fault(x, "worker work;", 1, 11);
        fault(x, "worker work work;", 1, 12);
        fault(x, "worker window 1;", 1, 7);
        fault(x, "worker worker;", 1, 7);
        fault(x, "stop;", 1, 0);
        fault(x, "12;", 1, 0);
        fault(x, ",", 1, 0);
        fault(x, "worker stop;worker stop;lock 1;", 1, 24);
    }

    private static void faultTwo() {
        String[] good = {"window 1", "window 50", "grace 0", "grace 50", "pipe 0 1", "pipe 3 9"};
        for (String line : good) {
            CHECK.due(line, Check.tell(new HangWatch(), line + ";"), 0);
        }
        String[] bad = {"window 0", "window 51", "grace 51", "pipe 4 1", "pipe 99 1"};
        for (String line : bad) {
            fault(new HangWatch(), line + ";", 2, line.indexOf(' ') + 1);
        }
        fault(new HangWatch(), "pipe 0 0;", 2, 7);
        fault(new HangWatch(), "pipe 0 10;", 2, 7);
        fault(new HangWatch(), "pipe 4 0;", 2, 5);
        String[] goodSteps = {"work 1", "work 50", "lock 0", "lock 5", "free 0", "free 5", "put 0", "put 3", "get 0",
            "get 3", "rest 1", "rest 99"};
        for (String step : goodSteps) {
            CHECK.due(step, Check.tell(new HangWatch(), "worker " + step + ";"), 1);
        }
        String[] badSteps = {"work 0", "work 00", "work 51", "lock 6", "free 6", "put 4", "get 4", "send 8",
            "await 8", "rest 0", "send 99"};
        for (String step : badSteps) {
            fault(new HangWatch(), "worker " + step + ";", 2, 8 + step.indexOf(' '));
        }
    }

    private static void faultsThreeAndFour() {
        HangWatch x = new HangWatch();
        String twelve = "worker " + Check.times("stop,", 11) + "stop";
        CHECK.due("twelve", Check.tell(x, twelve + ";"), 1);
        fault(x, twelve + ",stop;", 3, twelve.length() + 1);
        fault(x, twelve + ", work 0,stop;", 3, twelve.length() + 2);
        fault(x, "worker stop;" + twelve + ",lock 1;", 3, 12 + twelve.length() + 1);
        String eight = Check.times("worker stop;", 8);
        CHECK.due("eight", Check.tell(x, eight), 8);
        fault(x, eight + "worker stop;", 4, 96);
        fault(x, eight + "  worker work 0;worker stop;", 4, 98);
        fault(x, eight + twelve + ",stop;", 4, 96);
    }

    private static void faultFive() {
        HangWatch x = new HangWatch();
        fault(x, "worker send 0;", 5, 12);
        fault(x, "worker await 0;", 5, 13);
        fault(x, "worker stop,send 2;worker stop;", 5, 17);
        fault(x, "worker send 1,await 1,send 7;worker send 1;", 5, 27);
        CHECK.due("a later worker", Check.tell(x, "worker send 1;worker stop;"), 2);
        String eight = Check.times("worker stop;", 7) + "worker send 6,await 0;";
        CHECK.due("worker 7", Check.tell(x, eight), 8);
        fault(x, Check.times("worker stop;", 7) + "worker send 7;", 5, 96);
        fault(x, Check.times("worker stop;", 6) + "worker send 7;", 5, 84);
    }

    private static void order() {
        HangWatch x = new HangWatch();
        fault(x, "window 0;worker send 0;;", 1, 23);
        fault(x, "worker send 0;window 0;", 2, 21);
        fault(x, "worker work 0;grace 99;", 2, 12);
        fault(x, "worker send 0," + Check.times("stop,", 11) + "stop;", 3, 7 + 7 + 55);
        fault(x, Check.times("worker stop;", 8) + "worker stop;window 0;", 4, 96);
        fault(x, "window 0;" + Check.times("worker stop;", 8) + "worker stop;", 2, 7);
    }

    private static void faultStays() {
        HangWatch x = Check.made("window 2;worker lock 0,lock 0;");
        x.ticks(3);
        Check.load(x, "wrong");
        CHECK.due("a wrong text", x.text(), -1);
        CHECK.due("empty tape", x.count(13), 0);
        CHECK.due("tick stays", x.count(2), 3);
        CHECK.due("stalls stay", x.count(10), 1);
        CHECK.due("acts stay", x.count(12), 1);
        CHECK.due("fault", x.fault(0), 1);
        CHECK.due("place", x.fault(1), 0);
        for (int what : EDGES) {
            if (what != 0 && what != 1) {
                CHECK.due("fault " + what, x.fault(what), -1);
            }
        }
        x.undo();
        CHECK.due("undo leaves the fault", x.fault(0), 1);
        x.text();
        CHECK.due("no fault", x.fault(0), 0);
        CHECK.due("no place", x.fault(1), -1);
    }

    private static void fault(HangWatch x, String text, int fault, int place) {
        CHECK.due("text " + text, Check.tell(x, text), -1);
        CHECK.due("fault of " + text, x.fault(0), fault);
        CHECK.due("place of " + text, x.fault(1), place);
    }
}
