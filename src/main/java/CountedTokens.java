import java.util.Arrays;

/**
 * Caches that count tokens: a line may be read with one token and what it holds, written with all
 * of them. The document's words in capitals (CPU, LINE, MISS, TABLE ..) are used in the comments
 * as the document uses them.
 */
public final class CountedTokens {
    public static final int NONE = -1;

    private static final int HOME = 6;
    private static final int NODES = 7;
    private static final int MOST_CPUS = 6;
    private static final int LINES = 8;
    private static final int MOST_DATA = 9999;
    private static final int MOST_TICK = 9999;
    private static final int MOST_ROUNDS = 60;
    private static final int MOST_SEEN = 60;
    private static final int MOST_ACTS = 200;
    private static final int MOST_PLAN = 24;
    private static final int KEPT_TRACE = 100;

    // What a MISS is for; the keywords of the texts have the same numbers.
    private static final int LOAD = 1;
    private static final int STORE = 2;
    private static final int ADD = 3;

    // KINDS of MESSAGES; an entry of a TABLE is READ or WRITE, too.
    private static final int READ = 1;
    private static final int WRITE = 2;
    private static final int TOKENS = 3;
    private static final int FOR_GOOD = 4;
    private static final int RECALL = 5;

    private static final int TRACED_HIT = 0;
    private static final int TRACED_MISS = 1;
    private static final int TRACED_END = 2;
    private static final int TRACED_FOR_GOOD = 3;
    private static final int TRACED_EVICTION = 4;
    private static final int TRACED_GOING_ON = 5;
    private static final int TRACED_ASKING_ANEW = 6;

    private final Machine now;
    private final Reader reader;
    // These three are made when they are first needed: many objects never think or keep an image.
    private Machine kept;
    private Caches thought;
    private Walk walker;

    public CountedTokens() {
        now = new Machine();
        reader = new Reader();
    }

    public int state(int v) {
        int was = now.script.draws;
        now.script.draws = v;
        return was;
    }

    public boolean set(int what, int v) {
        switch (what) {
            case 0:
                return now.caches.setCpus(v);
            case 1:
                return now.caches.setTokens(v);
            case 2:
                return now.caches.setRoom(v);
            case 3:
                return now.caches.setPolicy(v);
            case 4:
                return now.caches.setPatience(v);
            default:
                return false;
        }
    }

    public int load(int cpu, int line) {
        if (!now.caches.mayBegin(cpu, line, 0)) {
            return NONE - 1;
        }
        return now.caches.access(cpu, line, LOAD, 0);
    }

    public int store(int cpu, int line, int v) {
        if (!now.caches.mayBegin(cpu, line, v)) {
            return NONE;
        }
        return now.caches.access(cpu, line, STORE, v) == NONE ? 0 : 1;
    }

    public int add(int cpu, int line, int v) {
        if (!now.caches.mayBegin(cpu, line, v)) {
            return NONE;
        }
        return now.caches.access(cpu, line, ADD, v) == NONE ? 0 : 1;
    }

    public boolean evict(int cpu, int line) {
        return now.caches.evictIfAllowed(cpu, line);
    }

    public int deliver(int k) {
        if (k < 0 || k >= now.caches.messages) {
            return NONE;
        }
        return now.caches.deliverAt(k);
    }

    public int tick(int n) {
        if (n < 1 || n > 99 || !now.caches.hasTime(n)) {
            return NONE;
        }
        now.caches.ticks(n);
        return now.caches.tick;
    }

    public int calm(int n) {
        if (n < 1 || n > MOST_ROUNDS || !now.caches.hasTime(n)) {
            return NONE;
        }
        return now.caches.calmRounds(n);
    }

    public int feed(int a, int b, int c, int d, int e) {
        if (!reader.hasSpace()) {
            return NONE;
        }
        reader.put(a);
        reader.put(b);
        reader.put(c);
        reader.put(d);
        reader.put(e);
        return reader.length;
    }

    public boolean end(int n) {
        return reader.cut(n);
    }

    public int text(int k) {
        int read = NONE;
        reader.clearFault();
        if (k >= 0 && k < MOST_CPUS) {
            read = reader.readProgram();
            if (read != NONE) {
                now.script.takeProgram(k, reader.built, read);
            }
        } else if (k == MOST_CPUS) {
            read = reader.readPlan();
            if (read != NONE) {
                now.script.takePlan(reader.built, read);
            }
        }
        reader.cut(0);
        return read;
    }

    public int run(int n) {
        if (n < 1 || n > MOST_PLAN) {
            return NONE;
        }
        int taken = 0;
        for (int i = 0; i < n && now.script.planDone < now.script.planLines; i++) {
            if (now.runLine()) {
                taken++;
            }
        }
        return taken;
    }

    public int fault(int what) {
        switch (what) {
            case 0:
                return reader.fault;
            case 1:
                return reader.faultPlace;
            default:
                return NONE;
        }
    }

    public int go(int n, int order) {
        if (n < 1 || n > MOST_ROUNDS || order < 0 || order > 2 || !now.caches.hasTime(n)) {
            return NONE;
        }
        return now.goRounds(n, order);
    }

    public int node(int node, int line, int what) {
        if (!now.caches.isNode(node) || !isLine(line)) {
            return NONE - 1;
        }
        int held = now.caches.heldAt(node, line);
        switch (what) {
            case 0:
                return Held.count(held);
            case 1:
                return Held.isOwner(held) ? 1 : 0;
            case 2:
                return Held.isValid(held) ? 1 : 0;
            case 3:
                return Held.isValid(held) ? Held.data(held) : NONE;
            case 4:
                return now.caches.turnAt(node, line);
            case 5:
                return node == HOME ? NONE : now.caches.hint[node * LINES + line];
            case 6:
                return node == HOME ? NONE : now.caches.placeByUse(node, line);
            default:
                return NONE - 1;
        }
    }

    public int miss(int cpu, int what) {
        if (!now.caches.isCpu(cpu)) {
            return NONE;
        }
        int miss = now.caches.missOf(cpu);
        if (miss == 0) {
            return NONE;
        }
        switch (what) {
            case 0:
                return Miss.line(miss);
            case 1:
                return Miss.what(miss);
            case 2:
                return Miss.value(miss);
            case 3:
                return now.caches.issued[cpu];
            case 4:
                return now.caches.latest[cpu];
            case 5:
                return Miss.isForGood(miss) ? 1 : 0;
            default:
                return NONE;
        }
    }

    public int table(int node, int cpu, int what) {
        if (!now.caches.isNode(node) || !now.caches.isCpu(cpu)) {
            return NONE;
        }
        int entry = now.caches.entryAt(node, cpu);
        switch (what) {
            case 0:
                return Entry.seq(entry);
            case 1:
                return Entry.isActive(entry) ? 1 : 0;
            case 2:
                return Entry.line(entry);
            case 3:
                return Entry.what(entry);
            case 4:
                return Entry.isMarked(entry) ? 1 : 0;
            default:
                return NONE;
        }
    }

    public int message(int i, int what) {
        if (i < 0 || i >= now.caches.messages || what < 0 || what > 8) {
            return NONE - 1;
        }
        int letter = now.caches.row[i];
        switch (what) {
            case 0:
                return Letter.from(letter);
            case 1:
                return Letter.to(letter);
            case 2:
                return Letter.kind(letter);
            case 3:
                return Letter.line(letter);
            default:
                return Letter.inside(letter, what);
        }
    }

    public int seen(int cpu, int i) {
        if (!now.caches.isCpu(cpu)) {
            return NONE;
        }
        int many = now.log.seenCount[cpu];
        if (i == NONE) {
            return many;
        }
        return i >= 0 && i < many ? now.log.seen[cpu * MOST_SEEN + i] : NONE;
    }

    public int program(int k, int what) {
        if (k < 0 || k >= MOST_CPUS) {
            return NONE;
        }
        switch (what) {
            case 0:
                return now.script.actCount[k];
            case 1:
                return now.script.actsDone[k];
            case 2:
                return now.script.restsTill[k];
            default:
                return NONE;
        }
    }

    public int soon(int cpu) {
        if (!now.caches.isCpu(cpu)) {
            return NONE;
        }
        if (now.caches.missOf(cpu) == 0) {
            return 0;
        }
        prepareThought();
        for (int rounds = 1; rounds <= MOST_ROUNDS; rounds++) {
            thought.calmRounds(1);
            if (thought.missOf(cpu) == 0) {
                return rounds;
            }
        }
        return NONE;
    }

    public int walk(int what) {
        if (what < 0 || what > 4) {
            return NONE;
        }
        prepareThought();
        if (walker == null) {
            walker = new Walk();
        }
        if (!walker.knows(thought)) {
            walker.explore(thought);
        }
        return walker.answers[what];
    }

    public int where(int line, int what) {
        if (!isLine(line)) {
            return NONE - 1;
        }
        switch (what) {
            case 0:
                return now.caches.ownerNode(line);
            case 1:
                return now.caches.cpusThatCan(line, LOAD);
            case 2:
                return now.caches.writerOf(line);
            case 3:
                return now.caches.nodesWithTokens(line);
            case 4:
                return now.caches.tokensOnWay(line);
            case 5:
                return now.caches.cpusThatMiss(line);
            case 6:
                return now.caches.nodesWithTurn(line);
            default:
                return NONE - 1;
        }
    }

    public int cost(int cpu, int what) {
        if (cpu < 0 || cpu >= MOST_CPUS) {
            return NONE;
        }
        switch (what) {
            case 0:
                return now.log.hits[cpu];
            case 1:
                return now.log.ended[cpu];
            case 2:
                return now.log.took[cpu];
            case 3:
                return now.log.longest[cpu];
            case 4:
                return now.log.forGood[cpu];
            default:
                return NONE;
        }
    }

    public int group(int cpu, int line) {
        if (!now.caches.isCpu(cpu) || !isLine(line)) {
            return NONE;
        }
        return now.caches.group[cpu * LINES + line];
    }

    public int trace(int i, int what) {
        if (i < 0 || i >= KEPT_TRACE || i >= now.log.traced) {
            return NONE;
        }
        int one = now.log.trace[(now.log.traced - 1 - i) % KEPT_TRACE];
        switch (what) {
            case 0:
                return one >>> 9;
            case 1:
                return one >>> 6 & 7;
            case 2:
                return one >>> 3 & 7;
            case 3:
                return one & 7;
            default:
                return NONE;
        }
    }

    public int flow(int a, int b, int what) {
        if (a < 0 || a >= NODES || b < 0 || b >= NODES) {
            return NONE;
        }
        int pair = a * NODES + b;
        switch (what) {
            case 0:
                return now.log.sent[pair];
            case 1:
                return now.log.sentTokens[pair];
            case 2:
                return now.log.sentData[pair];
            default:
                return NONE;
        }
    }

    public int can(int cpu, int line) {
        if (!now.caches.isCpu(cpu) || !isLine(line)) {
            return NONE;
        }
        if (now.caches.wouldHit(cpu, line, STORE)) {
            return 2;
        }
        return now.caches.wouldHit(cpu, line, LOAD) ? 1 : 0;
    }

    public int worth(int line) {
        return isLine(line) ? now.caches.ownerData(line) : NONE;
    }

    public boolean image(boolean taken) {
        if (taken) {
            if (kept == null) {
                kept = new Machine();
            }
            kept.become(now);
            return true;
        }
        if (kept == null) {
            return false;
        }
        now.become(kept);
        return true;
    }

    public int look(int what) {
        if (what < 0 || what > 18) {
            return NONE - 99999;
        }
        if (what <= 6 || what == 13 || what == 15) {
            return now.caches.figure(what);
        }
        if (what == 14) {
            return now.script.draws;
        }
        if (what == 16) {
            return now.script.planLines;
        }
        return what == 17 ? now.script.planDone : now.log.figure(what);
    }

    private void prepareThought() {
        if (thought == null) {
            thought = new Caches(new Log());
        }
        thought.become(now.caches);
    }

    private static boolean isLine(int line) {
        return line >= 0 && line < LINES;
    }

    /** What a NODE has of a LINE, in one int: COUNT, OWNER, VALID, DATA (0 where not VALID). */
    private static final class Held {
        static final int OWNER = 16;
        static final int VALID = 32;
        static final int DATA = 6;

        static int count(int held) {
            return held & 15;
        }

        static boolean isOwner(int held) {
            return (held & OWNER) != 0;
        }

        static boolean isValid(int held) {
            return (held & VALID) != 0;
        }

        static int data(int held) {
            return held >>> DATA;
        }

        static int withData(int held, int data) {
            return held & 15 | held & OWNER | VALID | data << DATA;
        }
    }

    /** The MISS of a CPU in one int: WHAT, LINE, FOR GOOD, v; 0 is none. */
    private static final class Miss {
        static final int GOOD = 32;

        static int of(int line, int what, int v) {
            return what | line << 2 | v << 6;
        }

        static int what(int miss) {
            return miss & 3;
        }

        static int line(int miss) {
            return miss >>> 2 & 7;
        }

        static boolean isForGood(int miss) {
            return (miss & GOOD) != 0;
        }

        static int value(int miss) {
            return miss >>> 6;
        }
    }

    /** An entry of a TABLE in one int: ACTIVE, MARKED, WHAT, LINE, SEQ. */
    private static final class Entry {
        static final int ACTIVE = 1;
        static final int MARKED = 2;
        static final int SEQ = 7;

        static int active(int seq, int line, int what) {
            return ACTIVE | what << 2 | line << 4 | seq << SEQ;
        }

        static int recalled(int entry, int seq) {
            return entry & 0x7c | seq << SEQ;
        }

        static boolean isActive(int entry) {
            return (entry & ACTIVE) != 0;
        }

        static boolean isActiveFor(int entry, int line) {
            return (entry & ACTIVE) != 0 && (entry >>> 4 & 7) == line;
        }

        static boolean isMarked(int entry) {
            return (entry & MARKED) != 0;
        }

        static int what(int entry) {
            return entry >>> 2 & 3;
        }

        static int line(int entry) {
            return entry >>> 4 & 7;
        }

        static int seq(int entry) {
            return entry >>> SEQ;
        }
    }

    /**
     * A MESSAGE in one int: FROM, TO, KIND, LINE, and its CARGO. The CARGO of TOKENS: how many,
     * OWNER, DATA and one (0: without DATA); of the KINDS 4 and 5: WHAT, SEQ.
     */
    private static final class Letter {
        static final int OWNER = 16;
        static final int DATA = 5;

        static int from(int letter) {
            return letter & 7;
        }

        static int to(int letter) {
            return letter >>> 3 & 7;
        }

        static int kind(int letter) {
            return letter >>> 6 & 7;
        }

        static int line(int letter) {
            return letter >>> 9 & 7;
        }

        static int cargo(int letter) {
            return letter >>> 12;
        }

        /** What message() tells of the CARGO, by its numbers 4 to 8. */
        static int inside(int letter, int what) {
            int cargo = letter >>> 12;
            int kind = kind(letter);
            boolean tokens = kind == TOKENS;
            boolean tables = kind == FOR_GOOD || kind == RECALL;
            switch (what) {
                case 4:
                    return tokens ? cargo & 15 : 0;
                case 5:
                    return tokens && (cargo & OWNER) != 0 ? 1 : 0;
                case 6:
                    return tokens ? (cargo >>> DATA) - 1 : NONE;
                case 7:
                    return tables ? cargo >>> 2 : 0;
                default:
                    return kind == FOR_GOOD ? cargo & 3 : 0;
            }
        }
    }

    /** What was counted and seen; nothing of it decides what happens next. */
    private static final class Log {
        final int[] trace = new int[KEPT_TRACE];
        final int[] sent = new int[NODES * NODES];
        final int[] sentTokens = new int[NODES * NODES];
        final int[] sentData = new int[NODES * NODES];
        final int[] seen = new int[MOST_CPUS * MOST_SEEN];
        final int[] seenCount = new int[MOST_CPUS];
        final int[] hits = new int[MOST_CPUS];
        final int[] ended = new int[MOST_CPUS];
        final int[] took = new int[MOST_CPUS];
        final int[] longest = new int[MOST_CPUS];
        final int[] forGood = new int[MOST_CPUS];
        int traced;
        int dropped;
        int evictions;
        int delivered;

        void become(Log other) {
            System.arraycopy(other.trace, 0, trace, 0, trace.length);
            System.arraycopy(other.sent, 0, sent, 0, sent.length);
            System.arraycopy(other.sentTokens, 0, sentTokens, 0, sentTokens.length);
            System.arraycopy(other.sentData, 0, sentData, 0, sentData.length);
            System.arraycopy(other.seen, 0, seen, 0, seen.length);
            System.arraycopy(other.seenCount, 0, seenCount, 0, MOST_CPUS);
            System.arraycopy(other.hits, 0, hits, 0, MOST_CPUS);
            System.arraycopy(other.ended, 0, ended, 0, MOST_CPUS);
            System.arraycopy(other.took, 0, took, 0, MOST_CPUS);
            System.arraycopy(other.longest, 0, longest, 0, MOST_CPUS);
            System.arraycopy(other.forGood, 0, forGood, 0, MOST_CPUS);
            traced = other.traced;
            dropped = other.dropped;
            evictions = other.evictions;
            delivered = other.delivered;
        }

        void note(int tick, int what, int cpu, int line) {
            trace[traced % KEPT_TRACE] = tick << 9 | what << 6 | cpu << 3 | line;
            traced++;
        }

        void see(int cpu, int data) {
            int many = seenCount[cpu];
            if (many < MOST_SEEN) {
                seen[cpu * MOST_SEEN + many] = data;
                seenCount[cpu] = many + 1;
            }
        }

        void countEnd(int cpu, int ticks) {
            ended[cpu]++;
            took[cpu] += ticks;
            longest[cpu] = Math.max(longest[cpu], ticks);
        }

        int figure(int what) {
            switch (what) {
                case 7:
                    return dropped;
                case 8:
                    return sum(hits);
                case 9:
                    return sum(ended);
                case 10:
                    return sum(forGood);
                case 11:
                    return evictions;
                case 12:
                    return delivered;
                default:
                    return traced;
            }
        }

        static int sum(int[] ofCpus) {
            int all = 0;
            for (int i = 0; i < ofCpus.length; i++) {
                all += ofCpus[i];
            }
            return all;
        }
    }

    /**
     * The NODES with what they have, and the MESSAGES. All by which STATES of the WALK can be
     * unlike stands in cells and row, so that the WALK copies and compares these two alone.
     */
    private static final class Caches {
        // A NODE's cells: what it has of the 8 LINES, its TABLE, the order of use, its MISS.
        static final int BLOCK = 16;
        static final int TABLE = 8;
        static final int USED = 14;
        static final int MISS = 15;
        // 60 that ask, 96 with TOKENS, 72 for good or their recall is the most there can be.
        static final int MOST_MESSAGES = 256;
        static final int MOST_ASKING = 60;
        static final int MOST_IN_ROUND = 2000;
        static final int TICKS_OF_GROUP = 16;
        static final int MOST_ISSUED = 3;

        final Log log;
        final int[] cells = new int[NODES * BLOCK];
        final int[] row = new int[MOST_MESSAGES];
        final int[] hint = new int[MOST_CPUS * LINES];
        final int[] group = new int[MOST_CPUS * LINES];
        final int[] issued = new int[MOST_CPUS];
        final int[] latest = new int[MOST_CPUS];
        final int[] began = new int[MOST_CPUS];
        int messages;
        int cpus = 3;
        int tokens = 8;
        int room = 4;
        int policy;
        int patience = 6;
        int tick;

        Caches(Log log) {
            this.log = log;
            Arrays.fill(hint, NONE);
            for (int line = 0; line < LINES; line++) {
                cells[line] = tokens | Held.OWNER | Held.VALID;
            }
        }

        void become(Caches other) {
            System.arraycopy(other.cells, 0, cells, 0, cells.length);
            System.arraycopy(other.row, 0, row, 0, row.length);
            System.arraycopy(other.hint, 0, hint, 0, hint.length);
            System.arraycopy(other.group, 0, group, 0, group.length);
            System.arraycopy(other.issued, 0, issued, 0, MOST_CPUS);
            System.arraycopy(other.latest, 0, latest, 0, MOST_CPUS);
            System.arraycopy(other.began, 0, began, 0, MOST_CPUS);
            messages = other.messages;
            cpus = other.cpus;
            tokens = other.tokens;
            room = other.room;
            policy = other.policy;
            patience = other.patience;
            tick = other.tick;
        }

        /** HOME's cells are the first, those of the CPUS follow: the CPUS there are lie together. */
        static int blockOf(int node) {
            return (node + 1) % NODES * BLOCK;
        }

        boolean isCpu(int cpu) {
            return cpu >= 0 && cpu < cpus;
        }

        boolean isNode(int node) {
            return node == HOME || node >= 0 && node < cpus;
        }

        int heldAt(int node, int line) {
            return cells[blockOf(node) + line];
        }

        int entryAt(int node, int cpu) {
            return cells[blockOf(node) + TABLE + cpu];
        }

        int missOf(int cpu) {
            return cells[blockOf(cpu) + MISS];
        }

        /** The LINE of the MISS of a NODE; NONE without one (HOME has none). */
        int missedLine(int node) {
            int miss = cells[blockOf(node) + MISS];
            return miss == 0 ? NONE : Miss.line(miss);
        }

        // ---- what can be told

        boolean isAllHome() {
            boolean all = messages == 0;
            for (int line = 0; line < LINES; line++) {
                all = all && Held.count(cells[line]) == tokens;
            }
            for (int cpu = 0; cpu < cpus; cpu++) {
                all = all && missOf(cpu) == 0;
            }
            return all;
        }

        boolean setCpus(int v) {
            if (v < 2 || v > MOST_CPUS || v > tokens || !isAllHome()) {
                return false;
            }
            cpus = v;
            return true;
        }

        boolean setTokens(int v) {
            if (v < cpus || v > 12 || !isAllHome()) {
                return false;
            }
            for (int line = 0; line < LINES; line++) {
                cells[line] += v - tokens;
            }
            tokens = v;
            return true;
        }

        boolean setRoom(int v) {
            if (v < 1 || v > 8) {
                return false;
            }
            room = v;
            return true;
        }

        boolean setPolicy(int v) {
            if (v < 0 || v > 3) {
                return false;
            }
            policy = v;
            return true;
        }

        boolean setPatience(int v) {
            if (v < 1 || v > 20) {
                return false;
            }
            patience = v;
            return true;
        }

        // ---- LOAD, STORE, ADD

        boolean mayBegin(int cpu, int line, int v) {
            return isCpu(cpu) && isLine(line) && v >= 0 && v <= MOST_DATA && missOf(cpu) == 0;
        }

        boolean wouldHit(int cpu, int line, int what) {
            int held = cells[blockOf(cpu) + line];
            int need = what == LOAD ? 1 : tokens;
            return Held.isValid(held) && Held.count(held) >= need;
        }

        /** What the LINE held ahead of it, if it is a HIT; NONE if it MISSES. */
        int access(int cpu, int line, int what, int v) {
            if (wouldHit(cpu, line, what)) {
                log.hits[cpu]++;
                log.note(tick, TRACED_HIT, cpu, line);
                return perform(cpu, line, what, v);
            }
            cells[blockOf(cpu) + MISS] = Miss.of(line, what, v);
            issued[cpu] = 1;
            latest[cpu] = tick;
            began[cpu] = tick;
            log.note(tick, TRACED_MISS, cpu, line);
            ask(cpu);
            return NONE;
        }

        int perform(int cpu, int line, int what, int v) {
            int block = blockOf(cpu);
            int at = block + line;
            int data = Held.data(cells[at]);
            if (what != STORE) {
                log.see(cpu, data);
            }
            if (what == STORE) {
                cells[at] = Held.withData(cells[at], v);
            } else if (what == ADD) {
                cells[at] = Held.withData(cells[at], (data + v) % (MOST_DATA + 1));
            }
            reorder(block, line, true);
            return data;
        }

        /**
         * Takes a LINE out of the order of use; if it is used now, it comes at the end. The order
         * has four bits for each LINE, its number and one, the one used longest ago lowest.
         */
        void reorder(int block, int line, boolean used) {
            int at = block + USED;
            int before = cells[at];
            int order = 0;
            int shift = 0;
            for (int i = 0; i < 32; i += 4) {
                int one = before >>> i & 15;
                if (one != 0 && one != line + 1) {
                    order |= one << shift;
                    shift += 4;
                }
            }
            cells[at] = used ? order | line + 1 << shift : order;
        }

        int placeByUse(int cpu, int line) {
            int order = cells[blockOf(cpu) + USED];
            for (int i = 0; i < LINES; i++) {
                if ((order >>> 4 * i & 15) == line + 1) {
                    return i;
                }
            }
            return NONE;
        }

        // ---- asking

        void ask(int cpu) {
            int miss = missOf(cpu);
            int line = Miss.line(miss);
            int kind = Miss.what(miss) == LOAD ? READ : WRITE;
            int asked = whomToAsk(cpu, line);
            int asking = askingOnWay();
            for (int to = 0; to < NODES; to++) {
                if ((asked >>> to & 1) == 0) {
                    continue;
                }
                if (asking < MOST_ASKING) {
                    post(cpu, to, kind, line, 0);
                    asking++;
                } else {
                    log.dropped++;
                }
            }
        }

        /** A set of NODES, by POLICY. */
        int whomToAsk(int cpu, int line) {
            int others = (1 << cpus) - 1 & ~(1 << cpu);
            int chosen = others;
            if (policy == 1) {
                int hinted = hint[cpu * LINES + line];
                chosen = hinted == NONE ? 0 : 1 << hinted;
            } else if (policy == 2 && issued[cpu] == 1) {
                chosen = 0;
            } else if (policy == 3 && issued[cpu] == 1) {
                chosen = group[cpu * LINES + line];
            }
            return chosen & others | 1 << HOME;
        }

        int askingOnWay() {
            int many = 0;
            for (int i = 0; i < messages; i++) {
                if (Letter.kind(row[i]) <= WRITE) {
                    many++;
                }
            }
            return many;
        }

        void post(int from, int to, int kind, int line, int cargo) {
            if (messages >= MOST_MESSAGES) {
                return;
            }
            row[messages] = from | to << 3 | kind << 6 | line << 9 | cargo << 12;
            messages++;
            int pair = from * NODES + to;
            log.sent[pair]++;
            if (kind == TOKENS) {
                log.sentTokens[pair] += cargo & 15;
                if (cargo >>> Letter.DATA != 0) {
                    log.sentData[pair]++;
                }
            }
        }

        void postToOthers(int cpu, int kind, int line, int cargo) {
            for (int to = 0; to < cpus; to++) {
                if (to != cpu) {
                    post(cpu, to, kind, line, cargo);
                }
            }
            post(cpu, HOME, kind, line, cargo);
        }

        /** Sends so many TOKENS of what a NODE has. */
        void hand(int node, int to, int line, int many, boolean owner, boolean data) {
            int block = blockOf(node);
            int at = block + line;
            int held = cells[at];
            int cargo = many;
            if (owner) {
                cargo |= Letter.OWNER;
            }
            if (data) {
                cargo |= Held.data(held) + 1 << Letter.DATA;
            }
            if (many < Held.count(held)) {
                cells[at] = (owner ? held & ~Held.OWNER : held) - many;
            } else {
                cells[at] = 0;
                if (node != HOME) {
                    reorder(block, line, false);
                }
            }
            post(node, to, TOKENS, line, cargo);
        }

        boolean evictIfAllowed(int cpu, int line) {
            if (!isCpu(cpu) || !isLine(line) || missedLine(cpu) == line) {
                return false;
            }
            if (Held.count(heldAt(cpu, line)) == 0) {
                return false;
            }
            evictLine(cpu, line);
            return true;
        }

        void evictLine(int cpu, int line) {
            int held = cells[blockOf(cpu) + line];
            boolean owner = Held.isOwner(held);
            log.evictions++;
            log.note(tick, TRACED_EVICTION, cpu, line);
            hand(cpu, HOME, line, Held.count(held), owner, owner);
        }

        // ---- MESSAGES that come

        /** So many times the first or the last, as long as there are MESSAGES: how many. */
        int deliverMany(int many, boolean last) {
            int done = 0;
            while (done < many && messages > 0) {
                deliverAt(last ? messages - 1 : 0);
                done++;
            }
            return done;
        }

        /** Delivers the k-th MESSAGE, which there is: its KIND. */
        int deliverAt(int k) {
            int letter = row[k];
            messages--;
            System.arraycopy(row, k + 1, row, k, messages - k);
            log.delivered++;
            int from = Letter.from(letter);
            int to = Letter.to(letter);
            int line = Letter.line(letter);
            int kind = Letter.kind(letter);
            switch (kind) {
                case READ:
                case WRITE:
                    answer(from, to, line, kind);
                    break;
                case TOKENS:
                    takeTokens(from, to, line, Letter.cargo(letter));
                    break;
                case FOR_GOOD:
                    heedForGood(from, to, line, Letter.cargo(letter));
                    break;
                default:
                    heedRecall(from, to, line, Letter.cargo(letter));
                    break;
            }
            return kind;
        }

        /** HINT and GROUP of a CPU to which something came; HOME has none. */
        void remember(int node, int from, int line, boolean hinted) {
            if (node == HOME) {
                return;
            }
            int at = node * LINES + line;
            if (from != HOME) {
                group[at] |= 1 << from;
            }
            if (hinted) {
                hint[at] = from == HOME ? NONE : from;
            }
        }

        void answer(int from, int node, int line, int kind) {
            remember(node, from, line, kind == WRITE);
            int held = heldAt(node, line);
            int count = Held.count(held);
            boolean owner = Held.isOwner(held);
            if (count == 0 || turnAt(node, line) != NONE) {
                return;
            }
            if (kind == WRITE) {
                hand(node, from, line, count, owner, owner);
            } else if (owner) {
                hand(node, from, line, 1, count == 1, true);
            }
        }

        void takeTokens(int from, int node, int line, int cargo) {
            remember(node, from, line, true);
            int block = blockOf(node);
            int at = block + line;
            boolean first = node != HOME && Held.count(cells[at]) == 0;
            if (first && linesHeld(node) >= room) {
                if (missedLine(node) != line) {
                    log.note(tick, TRACED_GOING_ON, node, line);
                    post(node, HOME, TOKENS, line, cargo);
                    return;
                }
                evictLine(node, (cells[block + USED] & 15) - 1);
            }
            cells[at] += cargo & 15;
            if ((cargo & Letter.OWNER) != 0) {
                cells[at] |= Held.OWNER;
            }
            if (cargo >>> Letter.DATA != 0) {
                cells[at] = Held.withData(cells[at], (cargo >>> Letter.DATA) - 1);
            }
            if (first) {
                reorder(block, line, true);
            }
            if (missedLine(node) == line && wouldHit(node, line, Miss.what(missOf(node)))) {
                endMiss(node);
            }
            settle(node, line);
        }

        int linesHeld(int cpu) {
            int order = cells[blockOf(cpu) + USED];
            int many = 0;
            for (int i = 0; i < LINES; i++) {
                if ((order >>> 4 * i & 15) != 0) {
                    many++;
                }
            }
            return many;
        }

        void endMiss(int cpu) {
            int at = blockOf(cpu) + MISS;
            int miss = cells[at];
            int line = Miss.line(miss);
            perform(cpu, line, Miss.what(miss), Miss.value(miss));
            cells[at] = 0;
            log.countEnd(cpu, tick - began[cpu]);
            log.note(tick, TRACED_END, cpu, line);
            if (Miss.isForGood(miss)) {
                closeEntry(cpu, line);
                postToOthers(cpu, RECALL, line, Entry.seq(entryAt(cpu, cpu)) << 2);
            }
        }

        // ---- for good

        /** THE TURN of a LINE at a NODE, or NONE. */
        int turnAt(int node, int line) {
            int at = blockOf(node) + TABLE;
            for (int cpu = 0; cpu < cpus; cpu++) {
                if (Entry.isActiveFor(cells[at + cpu], line)) {
                    return cpu;
                }
            }
            return NONE;
        }

        void settle(int node, int line) {
            int turn = turnAt(node, line);
            int held = heldAt(node, line);
            int count = Held.count(held);
            if (turn == NONE || turn == node || count == 0) {
                return;
            }
            boolean owner = Held.isOwner(held);
            if (Entry.what(entryAt(node, turn)) == WRITE) {
                hand(node, turn, line, count, owner, owner);
            } else if (count > 1) {
                hand(node, turn, line, count - 1, owner, owner);
            } else if (owner) {
                hand(node, turn, line, 1, true, true);
            }
        }

        void askForGood(int cpu) {
            int block = blockOf(cpu);
            int miss = cells[block + MISS];
            int line = Miss.line(miss);
            int what = Miss.what(miss) == LOAD ? READ : WRITE;
            int seq = Entry.seq(cells[block + TABLE + cpu]) + 1;
            cells[block + TABLE + cpu] = Entry.active(seq, line, what);
            log.forGood[cpu]++;
            log.note(tick, TRACED_FOR_GOOD, cpu, line);
            postToOthers(cpu, FOR_GOOD, line, what | seq << 2);
            cells[block + MISS] = miss | Miss.GOOD;
            settle(cpu, line);
        }

        /** A CPU is through with a LINE: whoever still is ACTIVE for it comes ahead of it now. */
        void closeEntry(int cpu, int line) {
            int at = blockOf(cpu) + TABLE;
            cells[at + cpu] &= ~Entry.ACTIVE;
            for (int other = 0; other < cpus; other++) {
                if (Entry.isActiveFor(cells[at + other], line)) {
                    cells[at + other] |= Entry.MARKED;
                }
            }
        }

        void heedForGood(int from, int node, int line, int cargo) {
            int at = blockOf(node) + TABLE + from;
            int seq = cargo >>> 2;
            if (Entry.seq(cells[at]) < seq) {
                cells[at] = Entry.active(seq, line, cargo & 3);
                settle(node, line);
            }
        }

        void heedRecall(int from, int node, int line, int cargo) {
            int at = blockOf(node) + TABLE + from;
            int seq = cargo >>> 2;
            if (Entry.seq(cells[at]) <= seq) {
                cells[at] = Entry.recalled(cells[at], seq);
                settle(node, line);
            }
        }

        // ---- TICKS

        boolean hasTime(int n) {
            return n <= MOST_TICK - tick;
        }

        void ticks(int n) {
            for (int i = 0; i < n; i++) {
                tickOnce();
            }
        }

        void tickOnce() {
            tick++;
            if (tick % TICKS_OF_GROUP == 0) {
                Arrays.fill(group, 0);
            }
            for (int cpu = 0; cpu < cpus; cpu++) {
                int miss = missOf(cpu);
                if (miss == 0 || Miss.isForGood(miss) || tick - latest[cpu] < patience) {
                    continue;
                }
                boolean oneMore = issued[cpu] < MOST_ISSUED;
                if (oneMore) {
                    issued[cpu]++;
                }
                if (oneMore || mustWait(cpu, Miss.line(miss))) {
                    latest[cpu] = tick;
                    log.note(tick, TRACED_ASKING_ANEW, cpu, Miss.line(miss));
                    ask(cpu);
                } else {
                    askForGood(cpu);
                }
            }
        }

        /** Whether a CPU may not yet ask for good: others come first, or its recall is under way. */
        boolean mustWait(int cpu, int line) {
            int at = blockOf(cpu) + TABLE;
            for (int other = 0; other < cpus; other++) {
                int entry = cells[at + other];
                if (Entry.isActiveFor(entry, line) && Entry.isMarked(entry)) {
                    return true;
                }
            }
            for (int i = 0; i < messages; i++) {
                if (Letter.from(row[i]) == cpu && Letter.kind(row[i]) >= FOR_GOOD) {
                    return true;
                }
            }
            return false;
        }

        /** CALM n ROUNDS: how many MESSAGES were delivered. */
        int calmRounds(int n) {
            int delivered = 0;
            for (int round = 0; round < n; round++) {
                for (int i = 0; i < MOST_IN_ROUND && messages > 0; i++) {
                    deliverAt(0);
                    delivered++;
                }
                tickOnce();
            }
            return delivered;
        }

        // ---- what is asked of a LINE

        int ownerNode(int line) {
            for (int node = 0; node < NODES; node++) {
                if (Held.isOwner(heldAt(node, line))) {
                    return node;
                }
            }
            return NONE;
        }

        int ownerData(int line) {
            int node = ownerNode(line);
            if (node != NONE) {
                return Held.data(heldAt(node, line));
            }
            for (int i = 0; i < messages; i++) {
                if (Letter.line(row[i]) == line && Letter.inside(row[i], 5) == 1) {
                    return Letter.inside(row[i], 6);
                }
            }
            return NONE;
        }

        int cpusThatCan(int line, int what) {
            int set = 0;
            for (int cpu = 0; cpu < cpus; cpu++) {
                if (wouldHit(cpu, line, what)) {
                    set |= 1 << cpu;
                }
            }
            return set;
        }

        int writerOf(int line) {
            for (int cpu = 0; cpu < cpus; cpu++) {
                if (wouldHit(cpu, line, STORE)) {
                    return cpu;
                }
            }
            return NONE;
        }

        int nodesWithTokens(int line) {
            int many = 0;
            for (int node = 0; node < NODES; node++) {
                if (Held.count(heldAt(node, line)) > 0) {
                    many++;
                }
            }
            return many;
        }

        int tokensOnWay(int line) {
            int many = 0;
            for (int i = 0; i < messages; i++) {
                if (Letter.line(row[i]) == line) {
                    many += Letter.inside(row[i], 4);
                }
            }
            return many;
        }

        int cpusThatMiss(int line) {
            int set = 0;
            for (int cpu = 0; cpu < cpus; cpu++) {
                if (missedLine(cpu) == line) {
                    set |= 1 << cpu;
                }
            }
            return set;
        }

        int nodesWithTurn(int line) {
            int many = 0;
            for (int node = 0; node < NODES; node++) {
                if (isNode(node) && turnAt(node, line) != NONE) {
                    many++;
                }
            }
            return many;
        }

        int figure(int what) {
            switch (what) {
                case 0:
                    return cpus;
                case 1:
                    return tokens;
                case 2:
                    return room;
                case 3:
                    return policy;
                case 4:
                    return patience;
                case 5:
                    return tick;
                case 6:
                    return messages;
                case 13:
                    return allTokensOnWay();
                default:
                    return howManyMiss();
            }
        }

        int allTokensOnWay() {
            int many = 0;
            for (int i = 0; i < messages; i++) {
                many += Letter.inside(row[i], 4);
            }
            return many;
        }

        int howManyMiss() {
            int many = 0;
            for (int cpu = 0; cpu < cpus; cpu++) {
                if (missOf(cpu) != 0) {
                    many++;
                }
            }
            return many;
        }
    }

    /** PROGRAMS and THE PLAN as they were told, how far they are, and the STATE of draws. */
    private static final class Script {
        final int[] acts = new int[MOST_CPUS * MOST_ACTS];
        final int[] actCount = new int[MOST_CPUS];
        final int[] actsDone = new int[MOST_CPUS];
        final int[] restsTill = new int[MOST_CPUS];
        final int[] plan = new int[MOST_PLAN];
        int planLines;
        int planDone;
        int draws;

        void become(Script other) {
            System.arraycopy(other.acts, 0, acts, 0, acts.length);
            System.arraycopy(other.actCount, 0, actCount, 0, MOST_CPUS);
            System.arraycopy(other.actsDone, 0, actsDone, 0, MOST_CPUS);
            System.arraycopy(other.restsTill, 0, restsTill, 0, MOST_CPUS);
            System.arraycopy(other.plan, 0, plan, 0, plan.length);
            planLines = other.planLines;
            planDone = other.planDone;
            draws = other.draws;
        }

        void takeProgram(int cpu, int[] built, int many) {
            System.arraycopy(built, 0, acts, cpu * MOST_ACTS, many);
            actCount[cpu] = many;
            actsDone[cpu] = 0;
        }

        void takePlan(int[] built, int many) {
            System.arraycopy(built, 0, plan, 0, many);
            planLines = many;
            planDone = 0;
        }

        /** A DRAW of m, which is above 0. */
        int draw(int m) {
            draws = 1664525 * draws + 1013904223;
            return m > 0 ? (draws >>> 8) % m : 0;
        }
    }

    /** An act of a PROGRAM or a line of THE PLAN in one int: keyword, its numbers, the CPU. */
    private static final class Act {
        static final int REST = 4;
        static final int AGAIN = 5;
        static final int EVICT = 6;
        static final int DELIVER = 7;
        static final int LAST = 8;
        static final int TICK = 9;
        static final int CALM = 10;
        static final int GO = 11;
        static final int POLICY = 12;

        // The bounds of a keyword's first number, and of its second, which is NONE without one;
        // no keyword has the number 0.
        static final int[] LOWEST = {0, 0, 0, 0, 1, 1, 0, 1, 1, 1, 1, 1, 0};
        static final int[] HIGHEST = {0, 7, 7, 7, 9, 9, 7, 50, 50, 99, 60, 60, 3};
        static final int[] SECOND = {-1, -1, 9999, 9999, -1, -1, -1, -1, -1, -1, -1, 2, -1};

        static int of(int keyword, int first, int second) {
            return keyword | first << 4 | second << 11;
        }

        static int keyword(int act) {
            return act & 15;
        }

        static int first(int act) {
            return act >>> 4 & 127;
        }

        static int second(int act) {
            return act >>> 11 & 0x3fff;
        }

        static int cpu(int act) {
            return act >>> 25;
        }

        static int withCpu(int act, int cpu) {
            return act | cpu << 25;
        }
    }

    /** All that THE IMAGE keeps, and what sets the caches and the texts going together. */
    private static final class Machine {
        final Log log;
        final Caches caches;
        final Script script;

        Machine() {
            log = new Log();
            caches = new Caches(log);
            script = new Script();
        }

        void become(Machine other) {
            log.become(other.log);
            caches.become(other.caches);
            script.become(other.script);
        }

        /** GO n ROUNDS by an ORDER: how many MISSES ended. */
        int goRounds(int n, int order) {
            int before = Log.sum(log.ended);
            for (int round = 0; round < n; round++) {
                for (int cpu = 0; cpu < caches.cpus; cpu++) {
                    if (isReady(cpu)) {
                        doNextAct(cpu);
                    }
                }
                for (int i = 0; i < 3 && caches.messages > 0; i++) {
                    caches.deliverAt(choose(order));
                }
                caches.tickOnce();
            }
            return Log.sum(log.ended) - before;
        }

        private int choose(int order) {
            if (order == 0) {
                return 0;
            }
            return order == 1 ? caches.messages - 1 : script.draw(caches.messages);
        }

        private boolean isReady(int cpu) {
            return script.actsDone[cpu] < script.actCount[cpu]
                && caches.missOf(cpu) == 0
                && caches.tick >= script.restsTill[cpu];
        }

        private void doNextAct(int cpu) {
            int act = script.acts[cpu * MOST_ACTS + script.actsDone[cpu]];
            script.actsDone[cpu]++;
            if (Act.keyword(act) == Act.REST) {
                script.restsTill[cpu] = caches.tick + Act.first(act);
            } else {
                caches.access(cpu, Act.first(act), Act.keyword(act), Act.second(act));
            }
        }

        /** Runs the next line of THE PLAN, which there is: false if it was refused. */
        boolean runLine() {
            int act = script.plan[script.planDone];
            script.planDone++;
            int first = Act.first(act);
            int keyword = Act.keyword(act);
            if (keyword >= Act.TICK && keyword <= Act.GO && !caches.hasTime(first)) {
                return false;
            }
            switch (keyword) {
                case Act.EVICT:
                    return caches.evictIfAllowed(Act.cpu(act), first);
                case Act.DELIVER:
                    return caches.deliverMany(first, false) > 0;
                case Act.LAST:
                    return caches.deliverMany(first, true) > 0;
                case Act.TICK:
                    caches.ticks(first);
                    return true;
                case Act.CALM:
                    caches.calmRounds(first);
                    return true;
                case Act.GO:
                    goRounds(first, Act.second(act));
                    return true;
                case Act.POLICY:
                    return caches.setPolicy(first);
                default:
                    return begin(Act.cpu(act), first, keyword, Act.second(act));
            }
        }

        private boolean begin(int cpu, int line, int what, int v) {
            if (!caches.mayBegin(cpu, line, v)) {
                return false;
            }
            caches.access(cpu, line, what, v);
            return true;
        }
    }

    /** The TAPE, and what reads PROGRAMS and THE PLAN from it. */
    private static final class Reader {
        static final int MOST_BYTES = 400;
        static final int DEEPEST = 3;

        // Their letters, eight bits each, at the place of their number; no keyword has the number 0.
        static final long[] KEYWORDS = {
            0L,
            0x6c6f6164L, // load
            0x73746f7265L, // store
            0x616464L, // add
            0x72657374L, // rest
            0x616761696eL, // again
            0x6576696374L, // evict
            0x64656c69766572L, // deliver
            0x6c617374L, // last
            0x7469636bL, // tick
            0x63616c6dL, // calm
            0x676fL, // go
            0x706f6c696379L, // policy
        };

        static final int END = 0;
        static final int WORD = 1;
        static final int NUMBER = 2;
        static final int SEMICOLON = 3;
        static final int OPEN = 4;
        static final int CLOSE = 5;
        static final int NOTHING = 6;

        final int[] tape = new int[MOST_BYTES];
        final int[] built = new int[MOST_ACTS];
        final int[] loopStart = new int[DEEPEST];
        final int[] loopTimes = new int[DEEPEST];
        int length;
        int fault;
        int faultPlace = NONE;
        private int builtCount;
        private int depth;
        private int next;
        // The token that was read last.
        private int kind;
        private int value;
        private int place;

        boolean hasSpace() {
            return length <= MOST_BYTES - 20;
        }

        /** Four bytes, the highest first. */
        void put(int number) {
            for (int shift = 24; shift >= 0 && length < MOST_BYTES; shift -= 8) {
                tape[length] = number >>> shift & 255;
                length++;
            }
        }

        boolean cut(int n) {
            if (n < 0 || n > length) {
                return false;
            }
            length = n;
            return true;
        }

        void clearFault() {
            fault = 0;
            faultPlace = NONE;
        }

        private void refuse(int why) {
            fault = why;
            faultPlace = place;
        }

        private void startReading() {
            next = 0;
            builtCount = 0;
            depth = 0;
        }

        /** How many ACTS were built; NONE with a FAULT. */
        int readProgram() {
            startReading();
            boolean more = true;
            for (int i = 0; i <= MOST_BYTES && more; i++) {
                readToken();
                if (kind == END) {
                    more = false;
                } else if (kind == CLOSE && depth > 0) {
                    closeLoop();
                } else if (kind == WORD && value == Act.AGAIN) {
                    openLoop();
                } else if (kind == WORD && value < Act.AGAIN) {
                    readAct(0);
                } else {
                    refuse(1);
                }
                more = more && fault == 0;
            }
            if (fault == 0 && depth > 0) {
                refuse(1);
            } else if (fault == 0 && builtCount > MOST_ACTS) {
                refuse(4);
            }
            return fault == 0 ? builtCount : NONE;
        }

        private void openLoop() {
            if (depth >= DEEPEST) {
                refuse(3);
                return;
            }
            int times = readNumber(1, 9);
            expect(OPEN);
            loopStart[depth] = builtCount;
            loopTimes[depth] = times;
            depth++;
        }

        /** Builds what the loop holds as often as it is still due; what can't be kept is counted. */
        private void closeLoop() {
            depth--;
            int start = loopStart[depth];
            int many = builtCount - start;
            int total = start + many * loopTimes[depth];
            for (int i = builtCount; i < total && i < MOST_ACTS; i++) {
                built[i] = built[i - many];
            }
            builtCount = total;
        }

        /** How many lines were built; NONE with a FAULT. */
        int readPlan() {
            startReading();
            boolean more = true;
            for (int i = 0; i <= MOST_BYTES && more; i++) {
                readToken();
                if (kind == END) {
                    more = false;
                } else {
                    readLine();
                    more = fault == 0;
                }
            }
            return fault == 0 ? builtCount : NONE;
        }

        private void readLine() {
            boolean named = kind == NUMBER;
            int cpu = value;
            if (named) {
                if (cpu > 5) {
                    refuse(2);
                }
            } else if (kind != WORD || value < Act.DELIVER) {
                refuse(1);
            }
            if (fault == 0 && builtCount >= MOST_PLAN) {
                refuse(3);
            }
            if (fault == 0 && named) {
                readToken();
                if (kind != WORD || value > ADD && value != Act.EVICT) {
                    refuse(1);
                }
            }
            if (fault == 0) {
                readAct(named ? cpu : 0);
            }
        }

        /** The numbers and the semicolon behind a keyword. */
        private void readAct(int cpu) {
            int keyword = value;
            int first = readNumber(Act.LOWEST[keyword], Act.HIGHEST[keyword]);
            int second = 0;
            if (Act.SECOND[keyword] != NONE) {
                second = readNumber(0, Act.SECOND[keyword]);
            }
            expect(SEMICOLON);
            if (builtCount < MOST_ACTS) {
                built[builtCount] = Act.withCpu(Act.of(keyword, first, second), cpu);
            }
            builtCount++;
        }

        // Behind a FAULT nothing more is read, so that the first one stays.

        private int readNumber(int low, int high) {
            if (fault != 0) {
                return low;
            }
            readToken();
            if (kind != NUMBER) {
                refuse(1);
                return low;
            }
            if (value < low || value > high) {
                refuse(2);
                return low;
            }
            return value;
        }

        private void expect(int due) {
            if (fault != 0) {
                return;
            }
            readToken();
            if (kind != due) {
                refuse(1);
            }
        }

        private void readToken() {
            while (next < length && (tape[next] == 32 || tape[next] == 10)) {
                next++;
            }
            place = next;
            if (next >= length) {
                kind = END;
                return;
            }
            int sign = tape[next];
            if (isLetter(sign)) {
                takeWord();
            } else if (isDigit(sign)) {
                takeDigits();
            } else {
                next++;
                kind = sign == ';' ? SEMICOLON : sign == '{' ? OPEN : sign == '}' ? CLOSE : NOTHING;
            }
        }

        private void takeWord() {
            long word = 0;
            // Of a longer word eight letters stay, and no keyword has so many.
            while (next < length && isLetter(tape[next])) {
                word = word << 8 | tape[next];
                next++;
            }
            kind = NOTHING;
            for (int keyword = LOAD; keyword <= Act.POLICY; keyword++) {
                if (KEYWORDS[keyword] == word) {
                    kind = WORD;
                    value = keyword;
                }
            }
        }

        private void takeDigits() {
            value = 0;
            while (next < length && isDigit(tape[next])) {
                if (next - place < 4) {
                    value = value * 10 + tape[next] - '0';
                }
                next++;
            }
            kind = next - place <= 4 ? NUMBER : NOTHING;
        }

        private static boolean isLetter(int sign) {
            return sign >= 'a' && sign <= 'z' || sign >= 'A' && sign <= 'Z';
        }

        private static boolean isDigit(int sign) {
            return sign >= '0' && sign <= '9';
        }
    }

    /** THE WALK: the STATES in the order in which they were come to, fewest deliveries first. */
    private static final class Walk {
        static final int MOST_STATES = 250;
        static final int MOST_ON_WAY = 24;
        static final int SIZE = NODES * Caches.BLOCK;
        static final int SLOTS = 1024;

        final int[] answers = new int[5];
        private final int[] cells = new int[MOST_STATES * SIZE];
        private final int[] rows = new int[MOST_STATES * MOST_ON_WAY];
        private final int[] onWay = new int[MOST_STATES];
        private final int[] deliveries = new int[MOST_STATES];
        private final int[] slots = new int[SLOTS];
        private final int[] edges = new int[MOST_STATES * MOST_ON_WAY];
        private final int[] edgeEnd = new int[MOST_STATES];
        private final int[] waiting = new int[MOST_STATES];
        private final int[] queue = new int[MOST_STATES];
        private int states;
        private int edgeCount;
        private int cpus;
        private int tokens;
        private int room;
        // The cells of CPUS that there are not never change.
        private int used;
        private boolean tooMany;

        /** Whether the answers are those of these caches: five questions cost one WALK. */
        boolean knows(Caches caches) {
            sort(caches.row, caches.messages);
            return states > 0
                && caches.cpus == cpus
                && caches.tokens == tokens
                && caches.room == room
                && isState(0, caches);
        }

        /** Sets the answers; the caches that it is given are left in whatever STATE. */
        void explore(Caches caches) {
            states = 0;
            edgeCount = 0;
            tooMany = false;
            cpus = caches.cpus;
            tokens = caches.tokens;
            room = caches.room;
            used = (cpus + 1) * Caches.BLOCK;
            Arrays.fill(slots, 0);
            enter(caches, 0);
            for (int state = 0; state < states && state < MOST_STATES && !tooMany; state++) {
                expand(caches, state);
            }
            if (tooMany) {
                Arrays.fill(answers, NONE);
            } else {
                sumUp();
            }
        }

        private void expand(Caches caches, int state) {
            int at = state * MOST_ON_WAY;
            for (int k = 0; k < onWay[state] && !tooMany; k++) {
                // The rows are sorted: MESSAGES that are alike stand together and lead to one STATE.
                if (k > 0 && rows[at + k] == rows[at + k - 1]) {
                    continue;
                }
                System.arraycopy(cells, state * SIZE, caches.cells, 0, used);
                System.arraycopy(rows, at, caches.row, 0, onWay[state]);
                caches.messages = onWay[state];
                caches.deliverAt(k);
                int to = enter(caches, deliveries[state] + 1);
                if (to != NONE) {
                    edges[edgeCount] = to;
                    edgeCount++;
                }
            }
            edgeEnd[state] = edgeCount;
        }

        /** The number of the STATE in which the caches are, a new one perhaps; NONE: too many. */
        private int enter(Caches caches, int after) {
            if (caches.messages > MOST_ON_WAY) {
                tooMany = true;
                return NONE;
            }
            sort(caches.row, caches.messages);
            int slot = hash(caches) & SLOTS - 1;
            // There are more slots than STATES, so that one is always free.
            for (int i = 0; i < SLOTS && slots[slot] != 0; i++) {
                if (isState(slots[slot] - 1, caches)) {
                    return slots[slot] - 1;
                }
                slot = slot + 1 & SLOTS - 1;
            }
            if (states >= MOST_STATES) {
                tooMany = true;
                return NONE;
            }
            System.arraycopy(caches.cells, 0, cells, states * SIZE, used);
            System.arraycopy(caches.row, 0, rows, states * MOST_ON_WAY, caches.messages);
            onWay[states] = caches.messages;
            deliveries[states] = after;
            states++;
            slots[slot] = states;
            return states - 1;
        }

        private static void sort(int[] row, int many) {
            for (int i = 1; i < many; i++) {
                int one = row[i];
                int at = i;
                while (at > 0 && row[at - 1] > one) {
                    row[at] = row[at - 1];
                    at--;
                }
                row[at] = one;
            }
        }

        private int hash(Caches caches) {
            int sum = caches.messages;
            for (int i = 0; i < used; i++) {
                sum = sum * 31 + caches.cells[i];
            }
            for (int i = 0; i < caches.messages; i++) {
                sum = sum * 31 + caches.row[i];
            }
            sum ^= sum >>> 15;
            sum *= 0x2c1b3c6d;
            return sum ^ sum >>> 12;
        }

        private boolean isState(int state, Caches caches) {
            if (onWay[state] != caches.messages) {
                return false;
            }
            int at = state * MOST_ON_WAY;
            for (int i = 0; i < caches.messages; i++) {
                if (rows[at + i] != caches.row[i]) {
                    return false;
                }
            }
            at = state * SIZE;
            for (int i = 0; i < used; i++) {
                if (cells[at + i] != caches.cells[i]) {
                    return false;
                }
            }
            return true;
        }

        private void sumUp() {
            int calm = 0;
            int missing = 0;
            int fewest = NONE;
            for (int state = 0; state < states; state++) {
                if (onWay[state] == 0) {
                    calm++;
                    // The STATES stand by how many deliveries they are away: the first is nearest.
                    fewest = fewest == NONE ? deliveries[state] : fewest;
                    missing += hasMiss(state) ? 1 : 0;
                }
            }
            answers[0] = states;
            answers[1] = calm;
            answers[2] = missing;
            answers[3] = fewest;
            answers[4] = canComeBack() ? 1 : 0;
        }

        private boolean hasMiss(int state) {
            int at = state * SIZE + Caches.MISS;
            for (int cpu = 0; cpu < cpus; cpu++) {
                if (cells[at + Caches.blockOf(cpu)] != 0) {
                    return true;
                }
            }
            return false;
        }

        /** Takes away STATES to which no other leads, as long as there are: a ring stays. */
        private boolean canComeBack() {
            Arrays.fill(waiting, 0);
            for (int i = 0; i < edgeCount; i++) {
                waiting[edges[i]]++;
            }
            int queued = 0;
            for (int state = 0; state < states; state++) {
                if (waiting[state] == 0) {
                    queue[queued] = state;
                    queued++;
                }
            }
            for (int i = 0; i < queued && i < MOST_STATES; i++) {
                int state = queue[i];
                for (int k = state == 0 ? 0 : edgeEnd[state - 1]; k < edgeEnd[state]; k++) {
                    waiting[edges[k]]--;
                    if (waiting[edges[k]] == 0) {
                        queue[queued] = edges[k];
                        queued++;
                    }
                }
            }
            return queued < states;
        }
    }
}
