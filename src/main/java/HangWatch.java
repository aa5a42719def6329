import java.util.Arrays;

/** Hangs found from outside: WORKERS go through STEPS, and stalls are told. DOC.md says every call. */
public final class HangWatch {
    public static final int NONE = -1;

    private static final int MOST_WORKERS = 8;
    private static final int MOST_STEPS = 12;
    private static final int LOCKS = 6;
    private static final int PIPES = 4;
    private static final int MOST_TICKS = 200;
    private static final int MOST_WINDOW = 50;
    private static final int MOST_GRACE = 50;
    private static final int FIRST_WINDOW = 4;
    private static final int FIRST_GRACE = 6;
    private static final int KEPT_STALLS = 30;
    private static final int STALL_PARTS = 5;
    private static final int KEPT_ACTS = 8;
    private static final int IMAGES = 3;
    private static final int MOST_BYTES = 800;
    private static final int FED_BYTES = 20;

    private static final int WORK = 0;
    private static final int LOCK = 1;
    private static final int FREE = 2;
    private static final int PUT = 3;
    private static final int GET = 4;
    private static final int SEND = 5;
    private static final int AWAIT = 6;
    private static final int REST = 7;
    private static final int AGAIN = 8;
    private static final int STOP = 9;

    private static final int HARD = 0;
    private static final int SOFT = 1;
    private static final int SLOW = 2;

    private final World now = new World();
    private final World[] images = new World[IMAGES];
    private final History history = new History();
    private final Reader reader = new Reader();
    private final View view = new View();
    private final Trial trial = new Trial();
    private final Scene future = new Scene();

    public HangWatch() {
    }

    public int feed(int a, int b, int c, int d, int e) {
        Tape tape = now.tape;
        if (tape.length + FED_BYTES > MOST_BYTES) {
            return NONE;
        }
        tape.put(a);
        tape.put(b);
        tape.put(c);
        tape.put(d);
        tape.put(e);
        return tape.length;
    }

    public int end(int n) {
        if (n < 0 || n > now.tape.length) {
            return NONE;
        }
        now.tape.length = n;
        return n;
    }

    public int text() {
        reader.read(now.tape);
        now.tape.length = 0;
        now.fault = reader.fault;
        now.spot = reader.spot;
        if (reader.fault != 0) {
            return NONE;
        }
        now.plan.take(reader.draft);
        now.plan.findReach();
        now.scene.begin(now.plan);
        now.stalls.clear();
        history.clear();
        return now.plan.workers;
    }

    public int fault(int what) {
        switch (what) {
            case 0: return now.fault;
            case 1: return now.spot;
            default: return NONE;
        }
    }

    // ---- acts

    public int ticks(int n) {
        if (n < 1 || n > MOST_TICKS) {
            return NONE;
        }
        history.push(now);
        int stalls = 0;
        for (int i = 0; i < n; i++) {
            stalls += passTick();
        }
        return stalls;
    }

    public int watch() {
        if (now.scene.allEnded(now.plan)) {
            return NONE;
        }
        history.push(now);
        for (int i = 1; i <= MOST_TICKS; i++) {
            if (passTick() > 0) {
                return i;
            }
        }
        return MOST_TICKS;
    }

    public boolean free(int worker) {
        lookNow();
        if (!has(view.heldUp, worker)) {
            return false;
        }
        history.push(now);
        now.scene.letGo(now.plan, worker);
        return true;
    }

    public boolean within(boolean grace, int v) {
        int least = grace ? 0 : 1;
        int most = grace ? MOST_GRACE : MOST_WINDOW;
        int old = grace ? now.scene.grace : now.scene.window;
        if (v < least || v > most || v == old) {
            return false;
        }
        history.push(now);
        if (grace) {
            now.scene.grace = v;
        } else {
            now.scene.window = v;
        }
        return true;
    }

    public int undo() {
        if (history.many == 0) {
            return NONE;
        }
        history.pop(now);
        return history.many;
    }

    // ---- what there is

    public int count(int what) {
        switch (what) {
            case 0: return now.plan.workers;
            case 2: return now.scene.tick;
            case 3: return now.scene.window;
            case 4: return now.scene.grace;
            case 10: return now.stalls.kept;
            case 11: return now.stalls.total;
            case 12: return history.many;
            case 13: return now.tape.length;
            default:
                lookNow();
                return view.tally(what);
        }
    }

    public int worker(int worker, int what) {
        if (!isWorker(worker)) {
            return NONE;
        }
        Plan plan = now.plan;
        Scene scene = now.scene;
        int place = scene.place[worker];
        switch (what) {
            case 0: return place;
            case 1: return plan.kindAt(worker, place);
            case 2: return plan.numberAt(worker, place);
            case 3: return place == NONE ? NONE : scene.ticked[worker];
            case 4: return scene.quiet(worker);
            case 5: return scene.steps[worker];
            case 12: return scene.locksOf(worker);
            case 13: return plan.lengths[worker];
            default: return seen(worker, what);
        }
    }

    public int step(int worker, int k, boolean number) {
        return number ? now.plan.numberAt(worker, k) : now.plan.kindAt(worker, k);
    }

    public int holder(int lock) {
        return at(now.scene.holders, lock);
    }

    public int pipe(int pipe, boolean room) {
        return at(room ? now.plan.rooms : now.scene.lies, pipe);
    }

    public int messages(int at, int of) {
        if (!isWorker(at) || !isWorker(of)) {
            return NONE;
        }
        return now.scene.mail[at * MOST_WORKERS + of];
    }

    public int waits(int worker) {
        if (!isWorker(worker)) {
            return NONE;
        }
        lookNow();
        return view.waitsFor[worker];
    }

    public int way(int worker, int k) {
        lookNow();
        if (!has(view.heldUp, worker)) {
            return NONE;
        }
        view.walk(worker);
        if (k == NONE) {
            return view.pathLength;
        }
        return k < view.pathLength ? at(view.path, k) : NONE;
    }

    public int ring(int worker) {
        lookNow();
        if (!has(view.heldUp, worker)) {
            return NONE;
        }
        view.walk(worker);
        return view.ringLength;
    }

    public int stall(int k, int what) {
        return now.stalls.part(k, what);
    }

    // ---- what would be

    public int freed(int worker) {
        lookNow();
        if (!has(view.heldUp, worker)) {
            return NONE;
        }
        trial.weigh(now.plan, now.scene, view);
        return trial.frees[worker];
    }

    public int later(int n, int what) {
        boolean known = what == 1 || what >= 5 && what <= 9;
        if (n < 0 || n > MOST_TICKS || !known) {
            return NONE;
        }
        future.take(now.scene);
        for (int i = 0; i < n; i++) {
            future.pass(now.plan);
        }
        view.look(now.plan, future);
        return view.tally(what);
    }

    public int ends(int worker) {
        if (!isWorker(worker)) {
            return NONE;
        }
        future.take(now.scene);
        for (int i = 0; i <= MOST_TICKS; i++) {
            if (future.place[worker] == NONE) {
                return i;
            }
            future.pass(now.plan);
        }
        return NONE;
    }

    public int told(int n, int window) {
        if (n < 1 || n > MOST_TICKS || window < 1 || window > MOST_WINDOW) {
            return NONE;
        }
        future.take(now.scene);
        future.window = window;
        int stalls = 0;
        for (int i = 0; i < n; i++) {
            future.pass(now.plan);
            stalls += Integer.bitCount(markStalls(future));
        }
        return stalls;
    }

    public int fewest(boolean bits) {
        lookNow();
        int set = trial.fewestOf(now.plan, now.scene, view.heldUp);
        if (set == NONE || bits) {
            return set;
        }
        return Integer.bitCount(set);
    }

    public boolean image(int k) {
        if (k < 0 || k >= IMAGES) {
            return false;
        }
        if (images[k] == null) {
            images[k] = new World();
        }
        images[k].take(now);
        return true;
    }

    public boolean again(int k) {
        if (k < 0 || k >= IMAGES || images[k] == null) {
            return false;
        }
        now.take(images[k]);
        history.clear();
        return true;
    }

    // ---- helpers of the calls

    private boolean isWorker(int worker) {
        return worker >= 0 && worker < now.plan.workers;
    }

    private void lookNow() {
        view.look(now.plan, now.scene);
    }

    /** What worker() answers only behind a look at who waits for whom. */
    private int seen(int worker, int what) {
        lookNow();
        switch (what) {
            case 6: return has(view.heldUp, worker) ? 1 : 0;
            case 7: return has(view.hard, worker) ? 1 : 0;
            case 8: return has(view.soft, worker) ? 1 : 0;
            case 9: return has(view.slow, worker) ? 1 : 0;
            case 10:
                trial.weigh(now.plan, now.scene, view);
                return trial.blocker(now.scene, view, worker);
            case 11: return view.neighbour(worker);
            default: return NONE;
        }
    }

    /** One TICK of what is, with its STALLS: how many were told. */
    private int passTick() {
        now.scene.pass(now.plan);
        int fresh = markStalls(now.scene);
        if (fresh != 0) {
            trial.weigh(now.plan, now.scene, view);
            keepStalls(fresh);
        }
        return Integer.bitCount(fresh);
    }

    /** The WORKERS of whom a STALL is told now, as bits; they are marked, so that each is told once. */
    private int markStalls(Scene scene) {
        // Nobody stalls who was not quiet for the WINDOW: most TICKS need no look at all.
        if (!scene.anyQuiet(now.plan)) {
            return 0;
        }
        view.look(now.plan, scene);
        int fresh = 0;
        for (int w = 0; w < now.plan.workers; w++) {
            int kind = view.stallKind(w);
            if (kind != NONE && scene.mark(w, kind)) {
                fresh |= 1 << w;
            }
        }
        return fresh;
    }

    /** Behind markStalls() and weigh(), whose findings it puts down. */
    private void keepStalls(int fresh) {
        Scene scene = now.scene;
        for (int w = 0; w < now.plan.workers; w++) {
            if (has(fresh, w)) {
                int blocker = trial.blocker(scene, view, w);
                now.stalls.keep(scene.tick, w, view.stallKind(w), blocker, view.neighbour(w));
            }
        }
    }

    /** The number at a place of a row, NONE beside the row. */
    private static int at(int[] row, int place) {
        return place >= 0 && place < row.length ? row[place] : NONE;
    }

    private static void add(int[] row, int place, int more) {
        if (place >= 0 && place < row.length) {
            row[place] += more;
        }
    }

    private static void set(int[] row, int place, int value) {
        if (place >= 0 && place < row.length) {
            row[place] = value;
        }
    }

    private static boolean has(int bits, int k) {
        return k >= 0 && k < MOST_WORKERS && (bits >> k & 1) == 1;
    }

    private static void copy(int[] from, int[] to) {
        System.arraycopy(from, 0, to, 0, Math.min(from.length, to.length));
    }

    /** All that is, but for what can be UNDONE. */
    private static final class World {
        final Plan plan = new Plan();
        final Scene scene = new Scene();
        final Stalls stalls = new Stalls();
        final Tape tape = new Tape();
        int fault = 0;
        int spot = NONE;

        void take(World other) {
            plan.take(other.plan);
            scene.take(other.scene);
            stalls.take(other.stalls);
            tape.take(other.tape);
            fault = other.fault;
            spot = other.spot;
        }
    }

    /** The bytes that came, not yet taken as a TEXT. */
    private static final class Tape {
        final byte[] bytes = new byte[MOST_BYTES];
        int length = 0;

        void put(int four) {
            for (int shift = 24; shift >= 0; shift -= 8) {
                if (length < MOST_BYTES) {
                    bytes[length] = (byte) (four >> shift);
                    length++;
                }
            }
        }

        /** The byte at a place; 0, which is in no token, beside the tape. */
        int byteAt(int place) {
            return place >= 0 && place < length ? bytes[place] : 0;
        }

        void take(Tape other) {
            System.arraycopy(other.bytes, 0, bytes, 0, other.length);
            length = other.length;
        }
    }

    /** What a TEXT tells: it stays as it is till the next TEXT. */
    private static final class Plan {
        int workers = 0;
        int window = FIRST_WINDOW;
        int grace = FIRST_GRACE;
        final int[] lengths = new int[MOST_WORKERS];
        final int[] kinds = new int[MOST_WORKERS * MOST_STEPS];
        final int[] numbers = new int[MOST_WORKERS * MOST_STEPS];
        final int[] reach = new int[MOST_WORKERS * MOST_STEPS];
        final int[] rooms = new int[PIPES];

        Plan() {
            Arrays.fill(rooms, 1);
        }

        void clear() {
            workers = 0;
            window = FIRST_WINDOW;
            grace = FIRST_GRACE;
            Arrays.fill(lengths, 0);
            Arrays.fill(rooms, 1);
        }

        void take(Plan other) {
            workers = other.workers;
            window = other.window;
            grace = other.grace;
            copy(other.lengths, lengths);
            copy(other.kinds, kinds);
            copy(other.numbers, numbers);
            copy(other.reach, reach);
            copy(other.rooms, rooms);
        }

        /** One WORKER more; false if there are as many as can be. */
        boolean addWorker() {
            if (workers >= MOST_WORKERS) {
                return false;
            }
            workers++;
            return true;
        }

        /** A STEP more of the latest WORKER, without a number: its cell, NONE if it has as many as can be. */
        int addStep(int kind) {
            int w = workers - 1;
            if (w < 0 || w >= MOST_WORKERS || lengths[w] >= MOST_STEPS) {
                return NONE;
            }
            int cell = w * MOST_STEPS + lengths[w];
            lengths[w]++;
            kinds[cell] = kind;
            numbers[cell] = NONE;
            return cell;
        }

        /** The cell of a STEP, NONE if there is none such. */
        int cellOf(int w, int k) {
            if (w < 0 || w >= workers || k < 0 || k >= lengths[w]) {
                return NONE;
            }
            return w * MOST_STEPS + k;
        }

        int kindAt(int w, int k) {
            return at(kinds, cellOf(w, k));
        }

        int numberAt(int w, int k) {
            return at(numbers, cellOf(w, k));
        }

        /** What a WORKER at a place CAN do to others, as bits; nothing for one that has ENDED. */
        int reachAt(int w, int k) {
            int cell = cellOf(w, k);
            return cell == NONE ? 0 : at(reach, cell);
        }

        /** The bit under which reach has a STEP; 0 for one that nobody waits for. */
        static int bitOf(int kind, int number) {
            switch (kind) {
                case GET: return 1 << number;
                case PUT: return 1 << PIPES + number;
                case SEND: return 1 << PIPES + PIPES + number;
                default: return 0;
            }
        }

        void findReach() {
            for (int w = 0; w < workers; w++) {
                for (int k = 0; k < lengths[w]; k++) {
                    reach[w * MOST_STEPS + k] = reachFrom(w, k);
                }
            }
        }

        private int reachFrom(int w, int from) {
            int bits = 0;
            for (int k = from; k < lengths[w]; k++) {
                int kind = kindAt(w, k);
                if (kind == STOP) {
                    return bits;
                }
                if (kind == AGAIN) {
                    return bits | reachBetween(w, 0, k);
                }
                bits |= reachBetween(w, k, k + 1);
            }
            return bits;
        }

        private int reachBetween(int w, int from, int to) {
            int bits = 0;
            for (int k = from; k < to; k++) {
                bits |= bitOf(kindAt(w, k), numberAt(w, k));
            }
            return bits;
        }
    }

    /** What TICKS and LETTING GO change: where the WORKERS are and what lies about. */
    private static final class Scene {
        int tick = 0;
        int window = FIRST_WINDOW;
        int grace = FIRST_GRACE;
        final int[] place = new int[MOST_WORKERS];
        final int[] ticked = new int[MOST_WORKERS];
        final int[] beat = new int[MOST_WORKERS];
        final int[] steps = new int[MOST_WORKERS];
        final int[] marks = new int[MOST_WORKERS];
        final int[] holders = new int[LOCKS];
        final int[] lies = new int[PIPES];
        final int[] mail = new int[MOST_WORKERS * MOST_WORKERS];

        Scene() {
            Arrays.fill(holders, NONE);
        }

        void begin(Plan plan) {
            tick = 0;
            window = plan.window;
            grace = plan.grace;
            Arrays.fill(place, 0);
            Arrays.fill(ticked, 0);
            Arrays.fill(beat, 0);
            Arrays.fill(steps, 0);
            Arrays.fill(marks, 0);
            Arrays.fill(holders, NONE);
            Arrays.fill(lies, 0);
            Arrays.fill(mail, 0);
        }

        void take(Scene other) {
            tick = other.tick;
            window = other.window;
            grace = other.grace;
            copy(other.place, place);
            copy(other.ticked, ticked);
            copy(other.beat, beat);
            copy(other.steps, steps);
            copy(other.marks, marks);
            copy(other.holders, holders);
            copy(other.lies, lies);
            copy(other.mail, mail);
        }

        boolean allEnded(Plan plan) {
            for (int w = 0; w < plan.workers; w++) {
                if (place[w] != NONE) {
                    return false;
                }
            }
            return true;
        }

        int quiet(int w) {
            return tick - beat[w];
        }

        boolean anyQuiet(Plan plan) {
            for (int w = 0; w < plan.workers; w++) {
                if (place[w] != NONE && quiet(w) >= window) {
                    return true;
                }
            }
            return false;
        }

        int locksOf(int w) {
            int bits = 0;
            for (int lock = 0; lock < LOCKS; lock++) {
                if (holders[lock] == w) {
                    bits |= 1 << lock;
                }
            }
            return bits;
        }

        /** Whether the STEP of a WORKER that has not ENDED needs nothing that is not there. */
        boolean canDo(Plan plan, int w) {
            int number = plan.numberAt(w, place[w]);
            switch (plan.kindAt(w, place[w])) {
                case LOCK: return at(holders, number) == NONE;
                case PUT: return at(lies, number) < at(plan.rooms, number);
                case GET: return at(lies, number) > 0;
                case AWAIT: return at(mail, w * MOST_WORKERS + number) > 0;
                default: return true;
            }
        }

        void pass(Plan plan) {
            tick++;
            for (int w = 0; w < plan.workers; w++) {
                if (place[w] != NONE && canDo(plan, w)) {
                    act(plan, w);
                }
            }
        }

        private void act(Plan plan, int w) {
            int number = plan.numberAt(w, place[w]);
            int kind = plan.kindAt(w, place[w]);
            switch (kind) {
                case WORK:
                case REST:
                    spend(plan, w, kind, number);
                    return;
                case LOCK:
                    set(holders, number, w);
                    break;
                case FREE:
                    if (at(holders, number) == w) {
                        set(holders, number, NONE);
                    }
                    break;
                case PUT:
                    add(lies, number, 1);
                    break;
                case GET:
                    add(lies, number, -1);
                    break;
                case SEND:
                    add(mail, number * MOST_WORKERS + w, 1);
                    break;
                case AWAIT:
                    add(mail, w * MOST_WORKERS + number, -1);
                    break;
                default:
                    break;
            }
            finish(plan, w, kind);
        }

        private void spend(Plan plan, int w, int kind, int most) {
            ticked[w]++;
            if (ticked[w] >= most) {
                finish(plan, w, kind);
            } else if (kind == WORK) {
                beatNow(w);
            }
        }

        private void finish(Plan plan, int w, int kind) {
            steps[w]++;
            ticked[w] = 0;
            beatNow(w);
            if (kind == AGAIN) {
                place[w] = 0;
            } else if (kind == STOP || place[w] + 1 >= plan.lengths[w]) {
                place[w] = NONE;
            } else {
                place[w]++;
            }
        }

        private void beatNow(int w) {
            beat[w] = tick;
            marks[w] = 0;
        }

        /** LETTING GO of a WORKER that is HELD UP. */
        void letGo(Plan plan, int w) {
            int kind = plan.kindAt(w, place[w]);
            if (kind == LOCK) {
                set(holders, plan.numberAt(w, place[w]), w);
            }
            finish(plan, w, kind);
        }

        /** A STALL of that kind is told of a WORKER; false if one was since its latest BEAT. */
        boolean mark(int w, int kind) {
            if ((marks[w] >> kind & 1) == 1) {
                return false;
            }
            marks[w] |= 1 << kind;
            return true;
        }
    }

    /** The latest STALLS, in a row that goes round. */
    private static final class Stalls {
        final int[] rows = new int[KEPT_STALLS * STALL_PARTS];
        int eldest = 0;
        int kept = 0;
        int total = 0;

        void clear() {
            eldest = 0;
            kept = 0;
            total = 0;
        }

        void take(Stalls other) {
            copy(other.rows, rows);
            eldest = other.eldest;
            kept = other.kept;
            total = other.total;
        }

        /** A STALL more; where thirty are kept the eldest makes way for it. */
        void keep(int tick, int worker, int kind, int blocker, int neighbour) {
            int row = (eldest + kept) % KEPT_STALLS * STALL_PARTS;
            if (kept < KEPT_STALLS) {
                kept++;
            } else {
                eldest = (eldest + 1) % KEPT_STALLS;
            }
            total++;
            set(rows, row, tick);
            set(rows, row + 1, worker);
            set(rows, row + 2, kind);
            set(rows, row + 3, blocker);
            set(rows, row + 4, neighbour);
        }

        int part(int k, int what) {
            if (k < 0 || k >= kept || what < 0 || what >= STALL_PARTS) {
                return NONE;
            }
            return at(rows, (eldest + k) % KEPT_STALLS * STALL_PARTS + what);
        }
    }

    /** Who waits for whom in a scene, and what follows; sets of WORKERS are bits. */
    private static final class View {
        int workers = 0;
        int ended = 0;
        int heldUp = 0;
        int freeToGo = 0;
        int hard = 0;
        int soft = 0;
        int slow = 0;
        int hung = 0;
        final int[] can = new int[MOST_WORKERS];
        final int[] waitsFor = new int[MOST_WORKERS];
        final int[] path = new int[MOST_WORKERS];
        int pathLength = 0;
        int ringLength = 0;

        void look(Plan plan, Scene scene) {
            workers = plan.workers;
            ended = 0;
            heldUp = 0;
            freeToGo = 0;
            for (int w = 0; w < workers; w++) {
                can[w] = plan.reachAt(w, scene.place[w]);
            }
            for (int w = 0; w < workers; w++) {
                waitsFor[w] = 0;
                if (scene.place[w] == NONE) {
                    ended |= 1 << w;
                } else if (scene.canDo(plan, w)) {
                    freeToGo |= 1 << w;
                } else {
                    heldUp |= 1 << w;
                    waitsFor[w] = waitsOf(plan, scene, w);
                }
            }
            spreadFreedom();
            hard = heldUp & ~freeToGo;
            findLate(plan, scene);
        }

        private int waitsOf(Plan plan, Scene scene, int w) {
            int number = plan.numberAt(w, scene.place[w]);
            switch (plan.kindAt(w, scene.place[w])) {
                case LOCK: return 1 << at(scene.holders, number);
                case PUT: return whoCan(w, Plan.bitOf(GET, number));
                case GET: return whoCan(w, Plan.bitOf(PUT, number));
                case AWAIT: return whoCan(w, Plan.bitOf(SEND, w)) & 1 << number;
                default: return 0;
            }
        }

        private int whoCan(int but, int bit) {
            int bits = 0;
            for (int w = 0; w < workers; w++) {
                if (w != but && (can[w] & bit) != 0) {
                    bits |= 1 << w;
                }
            }
            return bits;
        }

        private void spreadFreedom() {
            boolean more = true;
            for (int round = 0; round < workers && more; round++) {
                more = false;
                for (int w = 0; w < workers; w++) {
                    if (!has(freeToGo, w) && (waitsFor[w] & freeToGo) != 0) {
                        freeToGo |= 1 << w;
                        more = true;
                    }
                }
            }
        }

        private void findLate(Plan plan, Scene scene) {
            int quiet = 0;
            slow = 0;
            for (int w = 0; w < workers; w++) {
                if (scene.quiet(w) >= scene.window) {
                    quiet |= 1 << w;
                }
                boolean atRest = plan.kindAt(w, scene.place[w]) == REST;
                if (atRest && scene.quiet(w) >= scene.window + scene.grace) {
                    slow |= 1 << w;
                }
            }
            soft = heldUp & ~hard & quiet;
            hung = hard & quiet;
        }

        /** The KIND of STALL that a WORKER is in, NONE without; of one HARD only if it was quiet long enough. */
        int stallKind(int w) {
            if (has(hung, w)) {
                return HARD;
            }
            if (has(soft, w)) {
                return SOFT;
            }
            return has(slow, w) ? SLOW : NONE;
        }

        int tally(int what) {
            switch (what) {
                case 1: return Integer.bitCount(ended);
                case 5: return Integer.bitCount(heldUp);
                case 6: return Integer.bitCount(freeToGo);
                case 7: return Integer.bitCount(hard);
                case 8: return Integer.bitCount(soft);
                case 9: return Integer.bitCount(slow);
                default: return NONE;
            }
        }

        int neighbour(int w) {
            for (int i = 1; i < workers; i++) {
                int other = w + i < workers ? w + i : w + i - workers;
                if (!has(ended, other) && !has(hard, other)) {
                    return other;
                }
            }
            return NONE;
        }

        /** The FIRST WAY of a WORKER that is HELD UP, and how long its RING is. */
        void walk(int from) {
            pathLength = 0;
            ringLength = 0;
            int next = from;
            for (int i = 0; i < MOST_WORKERS && next != NONE; i++) {
                path[i] = next;
                pathLength = i + 1;
                int least = leastOf(at(waitsFor, next));
                ringLength = pathLength - pathPlace(least);
                next = ringLength > 0 ? NONE : least;
            }
        }

        /** Where one stands on the path so far; its length if it does not. */
        private int pathPlace(int w) {
            for (int i = 0; i < pathLength; i++) {
                if (path[i] == w) {
                    return i;
                }
            }
            return pathLength;
        }

        private static int leastOf(int bits) {
            return bits <= 0 ? NONE : Integer.numberOfTrailingZeros(bits);
        }
    }

    /** LETTING GO tried out on a scene of its own. */
    private static final class Trial {
        final Scene scene = new Scene();
        final View view = new View();
        final int[] frees = new int[MOST_WORKERS];

        /** How many HARD ones the LETTING GO of each WORKER that is HELD UP would free. */
        void weigh(Plan plan, Scene from, View seen) {
            for (int w = 0; w < plan.workers; w++) {
                frees[w] = 0;
                // Where nobody is HARD nobody can be freed.
                if (seen.hard != 0 && has(seen.heldUp, w)) {
                    scene.take(from);
                    scene.letGo(plan, w);
                    view.look(plan, scene);
                    frees[w] = Integer.bitCount(seen.hard & ~view.hard);
                }
            }
        }

        /** BLOCKER of a WORKER, behind weigh(). */
        int blocker(Scene from, View seen, int worker) {
            if (!has(seen.heldUp, worker)) {
                return NONE;
            }
            int among = has(seen.hard, worker) ? seen.hard : seen.heldUp;
            int best = NONE;
            for (int w = 0; w < seen.workers; w++) {
                if (has(among, w) && (best == NONE || isBetter(from, w, best))) {
                    best = w;
                }
            }
            return best;
        }

        private boolean isBetter(Scene from, int w, int best) {
            if (frees[w] != frees[best]) {
                return frees[w] > frees[best];
            }
            return from.quiet(w) > from.quiet(best);
        }

        /** The least of the smallest sets whose LETTING GO leaves nobody HARD; NONE without. */
        int fewestOf(Plan plan, Scene from, int heldUp) {
            int best = NONE;
            int size = MOST_WORKERS + 1;
            for (int set = 0; set < 1 << MOST_WORKERS; set++) {
                boolean smaller = Integer.bitCount(set) < size;
                if ((set & ~heldUp) == 0 && smaller && leavesNoneHard(plan, from, set)) {
                    best = set;
                    size = Integer.bitCount(set);
                }
            }
            return best;
        }

        private boolean leavesNoneHard(Plan plan, Scene from, int set) {
            scene.take(from);
            for (int w = 0; w < plan.workers; w++) {
                if (has(set, w)) {
                    scene.letGo(plan, w);
                }
            }
            view.look(plan, scene);
            return view.hard == 0;
        }
    }

    /** What was ahead of the latest ACTS. */
    private static final class History {
        final Scene[] scenes = new Scene[KEPT_ACTS];
        final Stalls[] stalls = new Stalls[KEPT_ACTS];
        int next = 0;
        int many = 0;

        History() {
            for (int i = 0; i < KEPT_ACTS; i++) {
                scenes[i] = new Scene();
                stalls[i] = new Stalls();
            }
        }

        void clear() {
            next = 0;
            many = 0;
        }

        void push(World world) {
            scenes[next].take(world.scene);
            stalls[next].take(world.stalls);
            next = (next + 1) % KEPT_ACTS;
            many = Math.min(many + 1, KEPT_ACTS);
        }

        void pop(World world) {
            if (many > 0) {
                many--;
                next = (next + KEPT_ACTS - 1) % KEPT_ACTS;
                world.scene.take(scenes[next]);
                world.stalls.take(stalls[next]);
            }
        }
    }

    /** A TEXT read token by token; what it tells is the draft. */
    private static final class Reader {
        private static final int LETTERS = 6;
        /** Six signs each, STEPS by their numbers first. */
        private static final String WORDS =
            "work  lock  free  put   get   send  await rest  again stop  windowgrace pipe  worker";
        private static final int WINDOW = 10;
        private static final int GRACE = 11;
        private static final int PIPE = 12;
        private static final int WORKER = 13;
        private static final int WORD_COUNT = 14;
        /** No word: what the second number behind pipe is. */
        private static final int ROOM = 14;
        private static final int[] LEAST = {1, 0, 0, 0, 0, 0, 0, 1, 0, 0, 1, 0, 0, 0, 1};
        private static final int[] MOST = {50, 5, 5, 3, 3, 7, 7, 99, 0, 0, 50, 50, 3, 0, 9};

        private static final int END_TOKEN = 0;
        private static final int WORD_TOKEN = 1;
        private static final int NUMBER_TOKEN = 2;
        private static final int SEMICOLON_TOKEN = 3;
        private static final int COMMA_TOKEN = 4;
        private static final int BAD_TOKEN = 5;

        private static final int WANTS_LINE = 0;
        private static final int WANTS_STEP = 1;
        private static final int WANTS_NUMBER = 2;
        private static final int WANTS_SEMICOLON = 3;
        private static final int BEHIND_STEP = 4;

        final Plan draft = new Plan();
        final int[] spots = new int[MOST_WORKERS * MOST_STEPS];
        int fault = 0;
        int spot = NONE;
        int token = END_TOKEN;
        int start = 0;
        int value = 0;
        int next = 0;
        int word = NONE;
        int cell = NONE;
        int pipeTold = NONE;

        void read(Tape tape) {
            draft.clear();
            fault = 0;
            spot = NONE;
            next = 0;
            int state = WANTS_LINE;
            boolean more = true;
            for (int i = 0; i <= MOST_BYTES && more; i++) {
                scan(tape);
                more = token != END_TOKEN || state != WANTS_LINE;
                if (more) {
                    state = follow(state);
                }
                if (state == NONE) {
                    fault = 1;
                    spot = start;
                    more = false;
                }
            }
            if (fault == 0) {
                seekStrangers();
            }
        }

        private void note(int which) {
            if (fault == 0) {
                fault = which;
                spot = start;
            }
        }

        /** FAULT 5 needs all WORKERS to be told, so it is looked for at the end. */
        private void seekStrangers() {
            for (int w = 0; w < draft.workers; w++) {
                for (int k = 0; k < draft.lengths[w] && fault == 0; k++) {
                    int kind = draft.kindAt(w, k);
                    int other = draft.numberAt(w, k);
                    boolean names = kind == SEND || kind == AWAIT;
                    if (names && (other == w || other >= draft.workers)) {
                        fault = 5;
                        spot = at(spots, draft.cellOf(w, k));
                    }
                }
            }
        }

        /** What is wanted behind the token; NONE if no text goes on with it. */
        private int follow(int state) {
            switch (state) {
                case WANTS_LINE: return token == WORD_TOKEN ? openLine() : NONE;
                case WANTS_STEP: return token == WORD_TOKEN ? openStep() : NONE;
                case WANTS_NUMBER: return token == NUMBER_TOKEN ? takeNumber() : NONE;
                case WANTS_SEMICOLON: return token == SEMICOLON_TOKEN ? WANTS_LINE : NONE;
                case BEHIND_STEP:
                    if (token == COMMA_TOKEN) {
                        return WANTS_STEP;
                    }
                    return token == SEMICOLON_TOKEN ? WANTS_LINE : NONE;
                default: return NONE;
            }
        }

        private int openLine() {
            word = value;
            switch (word) {
                case WINDOW:
                case GRACE:
                case PIPE:
                    return WANTS_NUMBER;
                case WORKER:
                    if (!draft.addWorker()) {
                        note(4);
                    }
                    return WANTS_STEP;
                default:
                    return NONE;
            }
        }

        private int openStep() {
            word = value;
            if (word < WORK || word > STOP) {
                return NONE;
            }
            cell = draft.addStep(word);
            if (cell == NONE) {
                note(3);
            }
            return word == AGAIN || word == STOP ? BEHIND_STEP : WANTS_NUMBER;
        }

        private int takeNumber() {
            if (value < at(LEAST, word) || value > at(MOST, word)) {
                note(2);
            }
            switch (word) {
                case WINDOW:
                    draft.window = value;
                    return WANTS_SEMICOLON;
                case GRACE:
                    draft.grace = value;
                    return WANTS_SEMICOLON;
                case PIPE:
                    pipeTold = value;
                    word = ROOM;
                    return WANTS_NUMBER;
                case ROOM:
                    set(draft.rooms, pipeTold, value);
                    return WANTS_SEMICOLON;
                default:
                    set(draft.numbers, cell, value);
                    set(spots, cell, start);
                    return BEHIND_STEP;
            }
        }

        private void scan(Tape tape) {
            while (next < tape.length && isBlank(tape.byteAt(next))) {
                next++;
            }
            start = next;
            int first = tape.byteAt(start);
            if (start >= tape.length) {
                token = END_TOKEN;
            } else if (isLetter(first)) {
                scanWord(tape);
            } else if (isDigit(first)) {
                scanNumber(tape);
            } else {
                next++;
                token = first == ';' ? SEMICOLON_TOKEN : first == ',' ? COMMA_TOKEN : BAD_TOKEN;
            }
        }

        private void scanWord(Tape tape) {
            while (next < tape.length && isLetter(tape.byteAt(next))) {
                next++;
            }
            token = WORD_TOKEN;
            value = NONE;
            for (int k = 0; k < WORD_COUNT; k++) {
                if (isWord(tape, k)) {
                    value = k;
                }
            }
        }

        private void scanNumber(Tape tape) {
            value = 0;
            while (next < tape.length && isDigit(tape.byteAt(next))) {
                value = value * 10 + tape.byteAt(next) - '0';
                next++;
            }
            token = next - start <= 2 ? NUMBER_TOKEN : BAD_TOKEN;
        }

        private boolean isWord(Tape tape, int k) {
            if (next - start > LETTERS) {
                return false;
            }
            for (int i = 0; i < LETTERS; i++) {
                int sign = start + i < next ? tape.byteAt(start + i) : ' ';
                int place = k * LETTERS + i;
                if (place < 0 || place >= WORDS.length() || WORDS.charAt(place) != sign) {
                    return false;
                }
            }
            return true;
        }

        private static boolean isBlank(int sign) {
            return sign == ' ' || sign == '\n';
        }

        private static boolean isLetter(int sign) {
            return sign >= 'a' && sign <= 'z';
        }

        private static boolean isDigit(int sign) {
            return sign >= '0' && sign <= '9';
        }
    }
}
