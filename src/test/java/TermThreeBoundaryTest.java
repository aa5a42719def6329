/** Term 3: ACTS, the tape, TOKENS, TEXTS and FAULTS; word by word, at its boundaries. */
public final class TermThreeBoundaryTest {
    private static final Sentences DOC = new Sentences("TermThreeBoundaryTest");
    private static final String TERM = "Term 3";
    private static final String TWELVE = "worker " + Check.times("stop,", 11) + "stop";
    private static final String EIGHT = Check.times("worker stop;", 8);

    public static void main(String[] args) {
        acts();
        tape();
        tokens();
        lines();
        workers();
        strikes();
        faultOne();
        byPlace();
        faultTwo();
        otherFaults();
        DOC.finish(TERM);
    }

    private static void acts() {
        DOC.says(TERM, "ACTS: TICKS; LET GO; another WINDOW, GRACE.", () -> {
            HangWatch x = Check.made("worker get 0,get 0;worker get 0;");
            x.ticks(1);
            DOC.due("ticks", x.count(12), 1);
            x.watch();
            DOC.due("watch", x.count(12), 2);
            x.free(0);
            DOC.due("free", x.count(12), 3);
            x.within(false, 9);
            DOC.due("window", x.count(12), 4);
            x.within(true, 9);
            DOC.due("grace", x.count(12), 5);
            x.feed(0, 0, 0, 0, 0);
            x.end(0);
            x.image(0);
            x.later(9, 1);
            x.told(9, 1);
            x.fewest(true);
            DOC.due("no other call", x.count(12), 5);
        });
        DOC.says(TERM, "The latest 8 can be UNDONE.", () -> {
            HangWatch x = Check.made("worker rest 99;");
            for (int i = 0; i < 8; i++) {
                x.ticks(1);
            }
            DOC.due("eight", x.count(12), 8);
            x.ticks(1);
            DOC.due("of nine", x.count(12), 8);
            for (int i = 7; i >= 0; i--) {
                DOC.due("undo", x.undo(), i);
                DOC.due("tick", x.count(2), i + 1);
            }
            DOC.due("not the first of the nine", x.undo(), -1);
            DOC.due("tick 1 stays", x.count(2), 1);
        });
    }

    private static void tape() {
        DOC.says(TERM, "THE TAPE has at most 800 bytes.", () -> {
            HangWatch x = new HangWatch();
            String text = TWELVE + ";" + " ".repeat(800 - TWELVE.length() - 13) + "worker stop;";
            DOC.due("a text of 800", Check.tell(x, text), 2);
            for (int i = 1; i <= 40; i++) {
                x.feed(0, 0, 0, 0, 0);
            }
            DOC.due("800", x.count(13), 800);
            DOC.due("not more", x.feed(0, 0, 0, 0, 0), -1);
            DOC.due("800 still", x.count(13), 800);
        });
    }

    private static void tokens() {
        DOC.says(TERM, "TOKENS, as long as they go", () -> {
            DOC.fault("windowwindow 5;", 1, 0);
            DOC.fault("workerstop;", 1, 0);
            DOC.fault("worker stopstop;", 1, 7);
            DOC.fault("workerwork 1;", 1, 0);
            DOC.due("the longest word, not lock and ed", fault("worker locked 1;"), 1);
            DOC.due("10, not 1 and 0", Check.made("window 10;").count(3), 10);
            DOC.due("a word ends at a digit, a digit at a word", tell("window5;worker work1,stop;"), 1);
        });
        DOC.says(TERM, ", blanks (32, 10) between", () -> {
            DOC.due("many", tell("  \n worker\n\n work  5 \n, stop ; \n"), 1);
            DOC.due("none where none is needed", tell("worker work 5,stop;worker stop;"), 2);
            DOC.due("blanks alone", tell(" \n "), 0);
            DOC.fault("wor ker stop;", 1, 0);
            DOC.fault("window 1 0;", 1, 9);
            DOC.fault("window\t5;", 1, 6);
            DOC.fault("window\r5;", 1, 6);
            DOC.fault("window\u00a05;", 1, 6);
            DOC.fault("\0", 1, 0);
        });
        DOC.says(TERM, ": words, letters a to z", () -> {
            DOC.fault("Window 5;", 1, 0);
            DOC.fault("windoW 5;", 1, 0);
            DOC.fault("worker stop`;", 1, 11);
            DOC.fault("worker stop{;", 1, 11);
            DOC.fault("\u00e9", 1, 0);
            DOC.due("z is one of them: no word ends ahead of it", fault("worker stopz;"), 1);
            DOC.fault("worker stopz;", 1, 7);
            DOC.fault("worker astop;", 1, 7);
        });
        DOC.says(TERM, "; NUMBERS, 1 to 2 digits", () -> {
            DOC.due("one", Check.made("window 9;").count(3), 9);
            DOC.due("two", Check.made("window 49;").count(3), 49);
            DOC.due("a nought ahead", Check.made("window 09;").count(3), 9);
            DOC.due("two noughts", Check.made("grace 00;").count(4), 0);
            DOC.fault("window 009;", 1, 7);
            DOC.fault("window -9;", 1, 7);
            DOC.fault("window /;", 1, 7);
            DOC.fault("window :;", 1, 7);
        });
        DOC.says(TERM, "; ; and , one byte each.", () -> {
            DOC.fault("window 5;;", 1, 9);
            DOC.fault("worker stop,,stop;", 1, 12);
            DOC.due("close by their neighbours", tell("worker stop,stop;worker stop;"), 2);
        });
    }

    private static int tell(String text) {
        return Check.tell(new HangWatch(), text);
    }

    private static int fault(String text) {
        HangWatch x = new HangWatch();
        Check.tell(x, text);
        return x.fault(0);
    }

    private static void lines() {
        DOC.says(TERM, "A TEXT: {LINE ';'}", () -> {
            DOC.due("no line", tell(""), 0);
            DOC.due("one", tell("worker stop;"), 1);
            DOC.due("two", tell("worker stop;worker stop;"), 2);
            DOC.fault(";", 1, 0);
            DOC.fault("window 5", 1, 8);
            DOC.fault("worker stop", 1, 11);
            DOC.fault("5;", 1, 0);
            DOC.fault("stop;", 1, 0);
        });
        DOC.says(TERM, ": 'window' N", () -> {
            DOC.due("window", Check.made("window 7;").count(3), 7);
            DOC.due("grace stays", Check.made("window 7;").count(4), 6);
            DOC.fault("window;", 1, 6);
            DOC.fault("window 7 7;", 1, 9);
            DOC.fault("window 7,", 1, 8);
        });
        DOC.says(TERM, "| 'grace' N", () -> {
            DOC.due("grace", Check.made("grace 7;").count(4), 7);
            DOC.due("window stays", Check.made("grace 7;").count(3), 4);
            DOC.fault("grace;", 1, 5);
            DOC.fault("grace 7 7;", 1, 8);
        });
        DOC.says(TERM, "| 'pipe' N N (which, ROOM)", () -> {
            HangWatch x = Check.made("pipe 2 3;");
            DOC.due("pipe 2", x.pipe(2, true), 3);
            DOC.due("pipe 3", x.pipe(3, true), 1);
            DOC.fault("pipe;", 1, 4);
            DOC.fault("pipe 2;", 1, 6);
            DOC.fault("pipe 2 3 3;", 1, 9);
            DOC.fault("pipe 2,3;", 1, 6);
        });
    }

    private static void workers() {
        DOC.says(TERM, "| 'worker' STEP {',' STEP}", () -> {
            DOC.due("one step", Check.made("worker stop;").worker(0, 13), 1);
            DOC.due("three", Check.made("worker stop,stop,stop;").worker(0, 13), 3);
            DOC.fault("worker;", 1, 6);
            DOC.fault("worker stop,;", 1, 12);
            DOC.fault("worker ,stop;", 1, 7);
            DOC.fault("worker stop stop;", 1, 12);
            DOC.fault("worker window 5;", 1, 7);
            DOC.fault("worker worker;", 1, 7);
            DOC.fault("worker 5;", 1, 7);
        });
        String withNumber = ": 'work' N | 'lock' N | 'free' N | 'put' N | 'get' N | 'send' N | 'await' N | 'rest' N";
        DOC.says(TERM, withNumber, () -> {
            String[] words = {"work", "lock", "free", "put", "get", "send", "await", "rest"};
            for (int kind = 0; kind < words.length; kind++) {
                HangWatch x = Check.made("worker " + words[kind] + " 1;worker stop;");
                DOC.due(words[kind], x.step(0, 0, false), kind);
                DOC.due("number of " + words[kind], x.step(0, 0, true), 1);
                DOC.fault("worker " + words[kind] + ";", 1, 7 + words[kind].length());
                DOC.fault("worker " + words[kind] + " 1 1;", 1, 10 + words[kind].length());
            }
        });
        DOC.says(TERM, "| 'again' | 'stop'.", () -> {
            HangWatch x = Check.made("worker again,stop;");
            DOC.due("again", x.step(0, 0, false), 8);
            DOC.due("stop", x.step(0, 1, false), 9);
            DOC.fault("worker again 1;", 1, 13);
            DOC.fault("worker stop 1;", 1, 12);
        });
    }

    private static void strikes() {
        DOC.says(TERM, "Later ones strike", () -> {
            HangWatch x = Check.made("window 1;grace 1;pipe 0 2;pipe 1 5;window 2;worker stop;grace 3;pipe 0 4;");
            DOC.due("window", x.count(3), 2);
            DOC.due("grace", x.count(4), 3);
            DOC.due("pipe 0", x.pipe(0, true), 4);
            DOC.due("pipe 1, told once", x.pipe(1, true), 5);
        });
        DOC.says(TERM, ", but worker, which are further ones.", () -> {
            HangWatch x = Check.made("worker stop;window 2;worker stop,stop;");
            DOC.due("two", x.count(0), 2);
            DOC.due("the first", x.worker(0, 13), 1);
            DOC.due("the second", x.worker(1, 13), 2);
        });
    }

    private static void faultOne() {
        DOC.says(TERM, "FAULTS, with places (a token's first byte", () -> {
            DOC.fault("  wrong;", 1, 2);
            DOC.fault("window   51;", 2, 9);
            DOC.fault("wrong", 1, 0);
            DOC.fault(" ".repeat(795) + "wrong", 1, 795);
        });
        DOC.says(TERM, "; the end's)", () -> {
            DOC.fault("window", 1, 6);
            DOC.fault("window 5  ", 1, 10);
            DOC.fault("worker stop,", 1, 12);
            DOC.fault("worker work" + " ".repeat(789), 1, 800);
        });
        DOC.says(TERM, ": 1 the first byte or token with which no text goes on", () -> {
            DOC.fault("window 5;! wrong", 1, 9);
            DOC.fault("window wrong !", 1, 7);
            DOC.fault("worker stop,wrong;", 1, 12);
            DOC.fault("worker stop;wrong stop;", 1, 12);
            DOC.fault("worker work 1,wrong 1;", 1, 14);
            DOC.fault("window 10;wrong 5;", 1, 10);
            DOC.fault("window 11;wrong 5;", 1, 10);
            DOC.fault("pipe 0 9;worker work 9,wrong;", 1, 23);
            nearWords();
            DOC.fault("window 0;worker send 0;" + EIGHT + "worker stop;?", 1, 23 + 96 + 12);
        });
        DOC.says(TERM, "(a longer row of digits is no token).", () -> {
            DOC.fault("window 100;", 1, 7);
            DOC.fault("window 005;", 1, 7);
            DOC.fault("window 9999999999999999999999;", 1, 7);
            DOC.fault("pipe 0 100;", 1, 7);
            DOC.fault("123", 1, 0);
        });
    }

    /** Every word with one letter changed, one more, one less. */
    private static void nearWords() {
        String[] words = {"window", "grace", "pipe", "worker", "work", "lock", "free", "put", "get", "send", "await", "rest",
            "again", "stop"};
        for (int i = 0; i < words.length; i++) {
            String ahead = i < 4 ? "" : "worker ";
            for (int k = 0; k < words[i].length(); k++) {
                String left = words[i].substring(0, k);
                String right = words[i].substring(k + 1);
                DOC.fault(ahead + left + "q" + right + " 1;", 1, ahead.length());
                DOC.fault(ahead + left + right + " 1;", 1, ahead.length());
                DOC.fault(ahead + left + "q" + words[i].substring(k) + " 1;", 1, ahead.length());
            }
            DOC.fault(ahead + words[i] + "s 1;", 1, ahead.length());
        }
    }

    private static void byPlace() {
        DOC.says(TERM, "If there is none, the first by place, of one place the least", () -> {
            DOC.fault("grace 99;window 0;", 2, 6);
            DOC.fault("window 0;" + TWELVE + ",stop;", 2, 7);
            DOC.fault(TWELVE + ",stop;window 0;", 3, TWELVE.length() + 1);
            DOC.fault(EIGHT + "worker work 0;", 4, 96);
            DOC.fault("window 0;" + EIGHT + "worker stop;", 2, 7);
            DOC.fault(TWELVE + ",work 0;", 3, TWELVE.length() + 1);
            DOC.fault(EIGHT + TWELVE + ",stop;", 4, 96);
            DOC.fault(TWELVE + ",stop;" + EIGHT, 3, TWELVE.length() + 1);
        });
    }

    private static void faultTwo() {
        DOC.says(TERM, ": 2 a NUMBER that can't be (as above", () -> {
            String[] can = {"window 1", "window 50", "grace 0", "grace 50", "pipe 0 1", "pipe 3 9", "worker lock 5",
                "worker free 5", "worker put 3", "worker get 3", "worker lock 0", "worker free 0", "worker put 0", "worker get 0"};
            for (String line : can) {
                DOC.due(line, fault(line + ";"), 0);
            }
            String[] cannot = {"window 0", "window 51", "window 99", "grace 51", "pipe 4 1", "pipe 0 0", "pipe 0 10", "pipe 3 99",
                "worker lock 6", "worker free 6", "worker put 4", "worker get 4", "worker lock 99"};
            for (String line : cannot) {
                DOC.fault(line + ";", 2, line.lastIndexOf(' ') + (line.startsWith("pipe 4") ? -1 : 1));
            }
        });
        DOC.says(TERM, "; a WORKER above 7", () -> {
            DOC.due("send 7 of eight", fault("worker send 7;" + Check.times("worker stop;", 7)), 0);
            DOC.due("await 7 of eight", fault("worker await 7;" + Check.times("worker stop;", 7)), 0);
            DOC.fault("worker send 8;" + Check.times("worker stop;", 7), 2, 12);
            DOC.fault("worker await 8;" + Check.times("worker stop;", 7), 2, 13);
            DOC.fault("worker send 99;", 2, 12);
            DOC.fault("worker send 7;", 5, 12);
        });
        DOC.says(TERM, "; n 0, or above 50 of WORK)", () -> {
            DOC.fault("worker work 0;", 2, 12);
            DOC.fault("worker work 00;", 2, 12);
            DOC.fault("worker rest 0;", 2, 12);
            DOC.fault("worker work 51;", 2, 12);
            DOC.fault("worker work 99;", 2, 12);
            DOC.due("work 1", fault("worker work 1;"), 0);
            DOC.due("work 50", fault("worker work 50;"), 0);
            DOC.due("rest 1", fault("worker rest 1;"), 0);
            DOC.due("rest 99", fault("worker rest 99;"), 0);
        });
    }

    private static void otherFaults() {
        DOC.says(TERM, "; 3 the word of a 13th STEP", () -> {
            DOC.due("twelve", fault(TWELVE + ";"), 0);
            DOC.fault(TWELVE + ",  stop;", 3, TWELVE.length() + 3);
            DOC.fault(TWELVE + ",lock 1,stop;", 3, TWELVE.length() + 1);
            DOC.due("twelve each", fault(TWELVE + ";" + TWELVE + ";"), 0);
            DOC.fault(TWELVE + ";" + TWELVE + ",stop;", 3, 2 * TWELVE.length() + 2);
        });
        DOC.says(TERM, "; 4 the word of a 9th WORKER.", () -> {
            DOC.due("eight", fault(EIGHT), 0);
            DOC.fault(EIGHT + " worker stop;", 4, 97);
            DOC.fault(EIGHT + "worker stop;worker stop;", 4, 96);
        });
        DOC.says(TERM, "If there is none: 5 SEND, AWAIT of a WORKER that is not told", () -> {
            DOC.fault("worker send 1;", 5, 12);
            DOC.fault("worker await 1;", 5, 13);
            DOC.fault("worker send 2;worker stop;", 5, 12);
            DOC.due("told later", fault("worker send 1,await 1;worker stop;"), 0);
            DOC.due("told earlier", fault("worker stop;worker send 0,await 0;"), 0);
            DOC.fault("worker send 1;window 0;", 2, 21);
            DOC.fault("worker send 1;" + TWELVE + ",stop;", 3, 14 + TWELVE.length() + 1);
        });
        DOC.says(TERM, ", or of itself", () -> {
            DOC.fault("worker send 0;worker stop;", 5, 12);
            DOC.fault("worker stop;worker await 1;", 5, 25);
            DOC.fault(Check.times("worker stop;", 7) + "worker send 7;", 5, 96);
        });
        DOC.says(TERM, "(at the NUMBER, the first).", () -> {
            DOC.fault("worker stop,send   0,await 7;", 5, 19);
            DOC.fault("worker await 1,stop,send 7;worker send 1;", 5, 25);
            DOC.fault("worker send 1;worker send 1;worker send 2;", 5, 26);
        });
    }
}
