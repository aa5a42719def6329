import java.util.ArrayDeque;
import java.util.ArrayList;
import java.util.Arrays;
import java.util.Comparator;
import java.util.Deque;
import java.util.HashMap;
import java.util.HashSet;
import java.util.List;
import java.util.Map;
import java.util.Set;
import java.util.TreeSet;
import java.util.regex.Matcher;
import java.util.regex.Pattern;

/** The document told a second time, as literally as can be, with the library's means and without any care for speed. */
final class PlainModel {
    static final int NONE = -1;
    static final List<String> STEP_WORDS =
        List.of("work", "lock", "free", "put", "get", "send", "await", "rest", "again", "stop");

    record Step(String word, int number) {
    }

    record Stall(int tick, int worker, int kind, int blocker, int neighbour) {
    }

    static final class Man {
        List<Step> program;
        boolean ended = false;
        int place = 0;
        int ticked = 0;
        int beat = 0;
        int done = 0;
        Set<Integer> toldSinceBeat = new HashSet<>();

        Step step() {
            return program.get(place);
        }

        Man twin() {
            Man twin = new Man();
            twin.program = program;
            twin.ended = ended;
            twin.place = place;
            twin.ticked = ticked;
            twin.beat = beat;
            twin.done = done;
            twin.toldSinceBeat = new HashSet<>(toldSinceBeat);
            return twin;
        }
    }

    /** All that is, but the tape, the fault, images and what can be undone. */
    static final class Hall {
        int tick = 0;
        int window = 4;
        int grace = 6;
        List<Man> men = new ArrayList<>();
        Map<Integer, Integer> holder = new HashMap<>();
        int[] lies = new int[4];
        int[] room = {1, 1, 1, 1};
        Map<List<Integer>, Integer> mail = new HashMap<>();
        List<Stall> stalls = new ArrayList<>();

        Hall twin() {
            Hall twin = new Hall();
            twin.tick = tick;
            twin.window = window;
            twin.grace = grace;
            men.forEach(man -> twin.men.add(man.twin()));
            twin.holder.putAll(holder);
            twin.lies = lies.clone();
            twin.room = room.clone();
            twin.mail.putAll(mail);
            twin.stalls.addAll(stalls);
            return twin;
        }

        int quiet(int w) {
            return tick - men.get(w).beat;
        }

        boolean possible(int w) {
            Step step = men.get(w).step();
            int n = step.number;
            return switch (step.word) {
                case "lock" -> !holder.containsKey(n);
                case "put" -> lies[n] < room[n];
                case "get" -> lies[n] > 0;
                case "await" -> mail.getOrDefault(List.of(w, n), 0) > 0;
                default -> true;
            };
        }

        boolean heldUp(int w) {
            return !men.get(w).ended && !possible(w);
        }

        void beat(int w) {
            men.get(w).beat = tick;
            men.get(w).toldSinceBeat.clear();
        }

        void stepDone(int w) {
            Man man = men.get(w);
            String word = man.step().word;
            man.done++;
            man.ticked = 0;
            beat(w);
            if (word.equals("again")) {
                man.place = 0;
            } else {
                man.place++;
                man.ended = word.equals("stop") || man.place == man.program.size();
            }
        }

        void doStep(int w) {
            Step step = men.get(w).step();
            int n = step.number;
            if (!possible(w)) {
                return;
            }
            switch (step.word) {
                case "work", "rest" -> {
                    men.get(w).ticked++;
                    if (step.word.equals("work")) {
                        beat(w);
                    }
                    if (men.get(w).ticked < n) {
                        return;
                    }
                }
                case "lock" -> holder.put(n, w);
                case "free" -> holder.remove(n, w);
                case "put" -> lies[n]++;
                case "get" -> lies[n]--;
                case "send" -> mail.merge(List.of(n, w), 1, Integer::sum);
                case "await" -> mail.merge(List.of(w, n), -1, Integer::sum);
                default -> { }
            }
            stepDone(w);
        }

        /** The steps ahead of a worker: its own, those behind, and those that AGAIN brings. */
        List<Step> ahead(int w) {
            List<Step> steps = new ArrayList<>();
            Man man = men.get(w);
            if (man.ended) {
                return steps;
            }
            for (int k = man.place; k < man.program.size(); k++) {
                Step step = man.program.get(k);
                steps.add(step);
                if (step.word.equals("stop")) {
                    break;
                }
                if (step.word.equals("again")) {
                    steps.addAll(man.program.subList(0, k));
                    break;
                }
            }
            return steps;
        }

        TreeSet<Integer> waitsFor(int w) {
            TreeSet<Integer> set = new TreeSet<>();
            if (!heldUp(w)) {
                return set;
            }
            Step step = men.get(w).step();
            if (step.word.equals("lock")) {
                set.add(holder.get(step.number));
                return set;
            }
            for (int v = 0; v < men.size(); v++) {
                boolean can = switch (step.word) {
                    case "put" -> ahead(v).contains(new Step("get", step.number));
                    case "get" -> ahead(v).contains(new Step("put", step.number));
                    default -> v == step.number && ahead(v).contains(new Step("send", w));
                };
                if (v != w && can) {
                    set.add(v);
                }
            }
            return set;
        }

        Set<Integer> freeToGo() {
            Set<Integer> free = new HashSet<>();
            boolean grew = true;
            while (grew) {
                grew = false;
                for (int w = 0; w < men.size(); w++) {
                    if (!men.get(w).ended && (!heldUp(w) || waitsFor(w).stream().anyMatch(free::contains))) {
                        grew |= free.add(w);
                    }
                }
            }
            return free;
        }

        Set<Integer> hard() {
            Set<Integer> free = freeToGo();
            Set<Integer> hard = new HashSet<>();
            for (int w = 0; w < men.size(); w++) {
                if (!men.get(w).ended && !free.contains(w)) {
                    hard.add(w);
                }
            }
            return hard;
        }

        boolean soft(int w) {
            return heldUp(w) && !hard().contains(w) && quiet(w) >= window;
        }

        boolean slow(int w) {
            Man man = men.get(w);
            return !man.ended && man.step().word.equals("rest") && quiet(w) >= window + grace;
        }

        int neighbour(int w) {
            Set<Integer> hard = hard();
            for (int v = w + 1; v < w + men.size(); v++) {
                int other = v % men.size();
                if (!men.get(other).ended && !hard.contains(other)) {
                    return other;
                }
            }
            return NONE;
        }

        void letGo(int w) {
            Step step = men.get(w).step();
            if (step.word.equals("lock")) {
                holder.put(step.number, w);
            }
            stepDone(w);
        }

        int freedBy(int w) {
            Set<Integer> hard = hard();
            Hall other = twin();
            other.letGo(w);
            hard.removeAll(other.hard());
            return hard.size();
        }

        int blocker(int w) {
            if (!heldUp(w)) {
                return NONE;
            }
            Set<Integer> hard = hard();
            List<Integer> rivals = new ArrayList<>();
            for (int v = 0; v < men.size(); v++) {
                if (heldUp(v) && (!hard.contains(w) || hard.contains(v))) {
                    rivals.add(v);
                }
            }
            Map<Integer, Integer> freed = new HashMap<>();
            rivals.forEach(v -> freed.put(v, freedBy(v)));
            Comparator<Integer> order = Comparator.comparing((Integer v) -> -freed.get(v))
                .thenComparing(v -> -quiet(v)).thenComparing(v -> v);
            return rivals.stream().min(order).get();
        }

        int pass() {
            tick++;
            for (int w = 0; w < men.size(); w++) {
                if (!men.get(w).ended) {
                    doStep(w);
                }
            }
            List<Stall> fresh = new ArrayList<>();
            Set<Integer> hard = hard();
            for (int w = 0; w < men.size(); w++) {
                int kind = hard.contains(w) && quiet(w) >= window ? 0 : soft(w) ? 1 : slow(w) ? 2 : NONE;
                if (kind != NONE && men.get(w).toldSinceBeat.add(kind)) {
                    fresh.add(new Stall(tick, w, kind, blocker(w), neighbour(w)));
                }
            }
            stalls.addAll(fresh);
            return fresh.size();
        }

        /** The first way; the one that comes a second time stands at its end once more. */
        List<Integer> way(int w) {
            List<Integer> way = new ArrayList<>(List.of(w));
            while (true) {
                int last = way.get(way.size() - 1);
                TreeSet<Integer> next = waitsFor(last);
                if (next.isEmpty()) {
                    return way;
                }
                boolean second = way.contains(next.first());
                way.add(next.first());
                if (second) {
                    return way;
                }
            }
        }
    }

    record Picture(Hall hall, String tape, int fault, int place) {
    }

    private record Token(String kind, String text, int start) {
    }

    private Hall hall = new Hall();
    private String tape = "";
    private int fault = 0;
    private int place = NONE;
    private final Deque<Hall> past = new ArrayDeque<>();
    private final Picture[] pictures = new Picture[3];

    private static int bits(Iterable<Integer> set) {
        int bits = 0;
        for (int w : set) {
            bits |= 1 << w;
        }
        return bits;
    }

    private boolean isMan(int w) {
        return w >= 0 && w < hall.men.size();
    }

    private void remember() {
        past.addLast(hall.twin());
        if (past.size() > 8) {
            past.removeFirst();
        }
    }

    int feed(int... numbers) {
        if (tape.length() + 20 > 800) {
            return NONE;
        }
        StringBuilder more = new StringBuilder(tape);
        for (int number : numbers) {
            for (int k = 3; k >= 0; k--) {
                more.append((char) (number >>> 8 * k & 255));
            }
        }
        tape = more.toString();
        return tape.length();
    }

    int end(int n) {
        if (n < 0 || n > tape.length()) {
            return NONE;
        }
        tape = tape.substring(0, n);
        return n;
    }

    private static List<Token> tokens(String text) {
        List<Token> tokens = new ArrayList<>();
        Matcher matcher = Pattern.compile("[a-z]+|[0-9]+|[^ \n]", Pattern.DOTALL).matcher(text);
        while (matcher.find()) {
            String part = matcher.group();
            String kind;
            if (part.matches("[0-9]{1,2}")) {
                kind = "N";
            } else if (STEP_WORDS.contains(part)) {
                kind = part.equals("again") || part.equals("stop") ? "e" : "s";
            } else if (List.of("window", "grace").contains(part)) {
                kind = "w";
            } else if (part.equals("pipe")) {
                kind = "p";
            } else if (part.equals("worker")) {
                kind = "m";
            } else {
                kind = part.equals(";") || part.equals(",") ? part : "?";
            }
            tokens.add(new Token(kind, part, matcher.start()));
        }
        return tokens;
    }

    private static final Pattern TEXT = Pattern.compile("((wN|pNN|m(sN|e)(,(sN|e))*);)*");

    /** The place of fault 1, or NONE. */
    private static int unreadable(List<Token> tokens, int length) {
        StringBuilder shape = new StringBuilder();
        for (Token token : tokens) {
            shape.append(token.kind);
            Matcher matcher = TEXT.matcher(shape);
            if (!matcher.matches() && !matcher.hitEnd()) {
                return token.start;
            }
        }
        return TEXT.matcher(shape).matches() ? NONE : length;
    }

    private static boolean impossible(String word, int which, int n) {
        return switch (word) {
            case "window", "work" -> n < 1 || n > 50;
            case "grace" -> n > 50;
            case "lock", "free" -> n > 5;
            case "put", "get" -> n > 3;
            case "send", "await" -> n > 7;
            case "rest" -> n < 1;
            default -> which == 0 ? n > 3 : n < 1 || n > 9;
        };
    }

    int text() {
        String text = tape;
        tape = "";
        List<Token> tokens = tokens(text);
        fault = 0;
        place = unreadable(tokens, text.length());
        if (place != NONE) {
            fault = 1;
            return NONE;
        }
        Hall fresh = new Hall();
        List<int[]> strangers = new ArrayList<>();
        for (int i = 0; i < tokens.size() && fault == 0; i++) {
            Token token = tokens.get(i);
            if (token.kind.equals("N")) {
                int which = tokens.get(i - 1).kind.equals("N") ? 1 : 0;
                String word = tokens.get(i - 1 - which).text;
                int n = Integer.parseInt(token.text);
                if (impossible(word, which, n)) {
                    fault = 2;
                    place = token.start;
                } else if (word.equals("window")) {
                    fresh.window = n;
                } else if (word.equals("grace")) {
                    fresh.grace = n;
                } else if (word.equals("pipe") && which == 1) {
                    fresh.room[Integer.parseInt(tokens.get(i - 1).text)] = n;
                }
            } else if (token.kind.equals("m")) {
                if (fresh.men.size() == 8) {
                    fault = 4;
                    place = token.start;
                }
                Man man = new Man();
                man.program = new ArrayList<>();
                fresh.men.add(man);
            } else if (token.kind.equals("s") || token.kind.equals("e")) {
                List<Step> program = fresh.men.get(fresh.men.size() - 1).program;
                if (program.size() == 12) {
                    fault = 3;
                    place = token.start;
                }
                int n = token.kind.equals("s") ? Integer.parseInt(tokens.get(i + 1).text) : NONE;
                program.add(new Step(token.text, n));
                if (token.text.equals("send") || token.text.equals("await")) {
                    strangers.add(new int[] {tokens.get(i + 1).start, n, fresh.men.size() - 1});
                }
            }
        }
        for (int[] row : strangers) {
            if (fault == 0 && (row[1] >= fresh.men.size() || row[1] == row[2])) {
                fault = 5;
                place = row[0];
            }
        }
        if (fault != 0) {
            return NONE;
        }
        hall = fresh;
        past.clear();
        return hall.men.size();
    }

    int fault(int what) {
        return what == 0 ? fault : what == 1 ? place : NONE;
    }

    int ticks(int n) {
        if (n < 1 || n > 200) {
            return NONE;
        }
        remember();
        int stalls = 0;
        for (int i = 0; i < n; i++) {
            stalls += hall.pass();
        }
        return stalls;
    }

    int watch() {
        if (hall.men.stream().allMatch(man -> man.ended)) {
            return NONE;
        }
        remember();
        int n = 0;
        int stalls = 0;
        while (n < 200 && stalls == 0) {
            stalls = hall.pass();
            n++;
        }
        return n;
    }

    boolean free(int w) {
        if (!isMan(w) || !hall.heldUp(w)) {
            return false;
        }
        remember();
        hall.letGo(w);
        return true;
    }

    boolean within(boolean grace, int v) {
        if (v > 50 || v < (grace ? 0 : 1) || v == (grace ? hall.grace : hall.window)) {
            return false;
        }
        remember();
        if (grace) {
            hall.grace = v;
        } else {
            hall.window = v;
        }
        return true;
    }

    int undo() {
        if (past.isEmpty()) {
            return NONE;
        }
        hall = past.removeLast();
        return past.size();
    }

    private static int tally(Hall of, int what) {
        int n = 0;
        for (int w = 0; w < of.men.size(); w++) {
            boolean counts = switch (what) {
                case 1 -> of.men.get(w).ended;
                case 5 -> of.heldUp(w);
                case 6 -> of.freeToGo().contains(w);
                case 7 -> of.hard().contains(w);
                case 8 -> of.soft(w);
                default -> of.slow(w);
            };
            n += counts ? 1 : 0;
        }
        return n;
    }

    int count(int what) {
        return switch (what) {
            case 0 -> hall.men.size();
            case 1, 5, 6, 7, 8, 9 -> tally(hall, what);
            case 2 -> hall.tick;
            case 3 -> hall.window;
            case 4 -> hall.grace;
            case 10 -> Math.min(30, hall.stalls.size());
            case 11 -> hall.stalls.size();
            case 12 -> past.size();
            case 13 -> tape.length();
            default -> NONE;
        };
    }

    int worker(int w, int what) {
        if (!isMan(w)) {
            return NONE;
        }
        Man man = hall.men.get(w);
        return switch (what) {
            case 0 -> man.ended ? NONE : man.place;
            case 1 -> man.ended ? NONE : STEP_WORDS.indexOf(man.step().word);
            case 2 -> man.ended ? NONE : man.step().number;
            case 3 -> man.ended ? NONE : man.ticked;
            case 4 -> hall.quiet(w);
            case 5 -> man.done;
            case 6 -> hall.heldUp(w) ? 1 : 0;
            case 7 -> hall.hard().contains(w) ? 1 : 0;
            case 8 -> hall.soft(w) ? 1 : 0;
            case 9 -> hall.slow(w) ? 1 : 0;
            case 10 -> hall.blocker(w);
            case 11 -> hall.neighbour(w);
            case 12 -> {
                List<Integer> held = new ArrayList<>();
                hall.holder.forEach((lock, who) -> {
                    if (who == w) {
                        held.add(lock);
                    }
                });
                yield bits(held);
            }
            case 13 -> man.program.size();
            default -> NONE;
        };
    }

    int step(int w, int k, boolean number) {
        if (!isMan(w) || k < 0 || k >= hall.men.get(w).program.size()) {
            return NONE;
        }
        Step step = hall.men.get(w).program.get(k);
        return number ? step.number : STEP_WORDS.indexOf(step.word);
    }

    int holder(int lock) {
        return hall.holder.getOrDefault(lock, NONE);
    }

    int pipe(int pipe, boolean room) {
        if (pipe < 0 || pipe > 3) {
            return NONE;
        }
        return room ? hall.room[pipe] : hall.lies[pipe];
    }

    int messages(int at, int of) {
        return isMan(at) && isMan(of) ? hall.mail.getOrDefault(List.of(at, of), 0) : NONE;
    }

    int waits(int w) {
        return isMan(w) ? bits(hall.waitsFor(w)) : NONE;
    }

    int way(int w, int k) {
        if (!isMan(w) || !hall.heldUp(w)) {
            return NONE;
        }
        List<Integer> way = hall.way(w).stream().distinct().toList();
        if (k == NONE) {
            return way.size();
        }
        return k >= 0 && k < way.size() ? way.get(k) : NONE;
    }

    int ring(int w) {
        if (!isMan(w) || !hall.heldUp(w)) {
            return NONE;
        }
        List<Integer> way = hall.way(w);
        return way.size() - 1 - way.indexOf(way.get(way.size() - 1));
    }

    int stall(int k, int what) {
        List<Stall> kept = hall.stalls.subList(Math.max(0, hall.stalls.size() - 30), hall.stalls.size());
        if (k < 0 || k >= kept.size()) {
            return NONE;
        }
        Stall stall = kept.get(k);
        return switch (what) {
            case 0 -> stall.tick;
            case 1 -> stall.worker;
            case 2 -> stall.kind;
            case 3 -> stall.blocker;
            case 4 -> stall.neighbour;
            default -> NONE;
        };
    }

    int freed(int w) {
        return isMan(w) && hall.heldUp(w) ? hall.freedBy(w) : NONE;
    }

    int later(int n, int what) {
        if (n < 0 || n > 200 || !Arrays.asList(1, 5, 6, 7, 8, 9).contains(what)) {
            return NONE;
        }
        Hall other = hall.twin();
        for (int i = 0; i < n; i++) {
            other.pass();
        }
        return tally(other, what);
    }

    int ends(int w) {
        if (!isMan(w)) {
            return NONE;
        }
        Hall other = hall.twin();
        int n = 0;
        while (!other.men.get(w).ended && n < 200) {
            other.pass();
            n++;
        }
        return other.men.get(w).ended ? n : NONE;
    }

    int told(int n, int window) {
        if (n < 1 || n > 200 || window < 1 || window > 50) {
            return NONE;
        }
        Hall other = hall.twin();
        other.window = window;
        int before = other.stalls.size();
        for (int i = 0; i < n; i++) {
            other.pass();
        }
        return other.stalls.size() - before;
    }

    int fewest(boolean asBits) {
        for (int size = 0; size <= hall.men.size(); size++) {
            for (int set = 0; set < 1 << hall.men.size(); set++) {
                if (Integer.bitCount(set) == size && helps(set)) {
                    return asBits ? set : size;
                }
            }
        }
        return NONE;
    }

    private boolean helps(int set) {
        Hall other = hall.twin();
        for (int w = 0; w < hall.men.size(); w++) {
            if ((set >> w & 1) == 1) {
                if (!hall.heldUp(w)) {
                    return false;
                }
                other.letGo(w);
            }
        }
        return other.hard().isEmpty();
    }

    boolean image(int k) {
        if (k < 0 || k > 2) {
            return false;
        }
        pictures[k] = new Picture(hall.twin(), tape, fault, place);
        return true;
    }

    boolean again(int k) {
        if (k < 0 || k > 2 || pictures[k] == null) {
            return false;
        }
        hall = pictures[k].hall.twin();
        tape = pictures[k].tape;
        fault = pictures[k].fault;
        place = pictures[k].place;
        past.clear();
        return true;
    }
}
