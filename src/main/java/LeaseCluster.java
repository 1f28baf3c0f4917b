/**
 * A simulator of a replicated log whose leader works under time leases, with clocks of bounded doubt.
 *
 * <p>The public methods look at their arguments and name the errors; {@link World} holds all that a snapshot
 * saves and does what the servers do; {@link Scenario} reads the text.
 */
public final class LeaseCluster {
    public static final int NONE = -1000, BAD = -1001, STATE = -1002, FULL = -1003;

    private static final int SERVERS = 5;
    private static final int MAJORITY = 3;
    private static final int NO_MAJORITY = -10;
    private static final int MOST_DOUBT = 20;
    private static final int LAST_TIME = 100000;
    /** No timestamp is after it. */
    private static final int END_OF_TIME = 0x7fffffff;
    private static final int MOST_TICKS = 200;
    private static final int MOST_DURATION = 100;
    private static final int KEYS = 8;
    private static final int MOST_VALUE = 999;
    private static final int CELLS = 4;
    private static final int SNAPSHOTS = 2;
    private static final int COUNTS = 11;

    private static final int LOG_LIMIT = 40;
    private static final int GIVEN_LIMIT = 50;
    private static final int MESSAGE_LIMIT = 20;
    private static final int TEXT_LIMIT = 100;
    /** A call takes three bytes at least, so a text has no more than 33 calls and one that is not ended. */
    private static final int CALL_LIMIT = 34;
    private static final int CALL_NUMBERS = 3;
    private static final int NUMBER_DIGITS = 3;
    private static final int MOST_BYTE = 127;
    private static final int NO_FAULT = -1;
    private static final int FAULT_BASE = -2000;

    private static final int RUNNING = 0;
    private static final int CRASHED = 2;

    private static final int GRANTED = 0;
    private static final int UNREACHED = 1;
    private static final int TERM_REFUSES = 2;
    private static final int PROMISE_REFUSES = 3;
    private static final int LOG_REFUSES = 4;

    private static final int ROW_WIDTH = 4;
    private static final int ENTRY_TERM = 0;
    private static final int ENTRY_KEY = 1;
    private static final int ENTRY_VALUE = 2;
    private static final int ENTRY_STAMP = 3;
    private static final int GIVEN_ENTRY = 1;
    private static final int GIVEN_STAMP = 2;
    private static final int MESSAGE_CELL = 0;
    private static final int MESSAGE_VALUE = 1;
    private static final int MESSAGE_TOKEN = 2;
    private static final int MESSAGE_DELIVERED = 3;

    private static final long FIRST_HASH = 2525L;

    private final World world;
    private final World[] snapshots;
    private final boolean[] saved;
    private final Scenario scenario;

    public LeaseCluster(int doubt) {
        int kept = Math.max(0, Math.min(MOST_DOUBT, doubt));
        world = new World(kept);
        snapshots = new World[SNAPSHOTS];
        for (int k = 0; k < SNAPSHOTS; k++) {
            snapshots[k] = new World(kept);
        }
        saved = new boolean[SNAPSHOTS];
        scenario = new Scenario();
    }

    // ---- time, clocks, failures

    public int setClock(int server, int offset) {
        if (!isServer(server) || !isWithin(offset, -world.doubt, world.doubt)) {
            return BAD;
        }
        int before = world.servers[server].offset;
        world.servers[server].offset = offset;
        return before;
    }

    public int clock(int server, int what) {
        if (!isServer(server)) {
            return BAD;
        }
        switch (what) {
            case 0: return world.reading(server);
            case 1: return world.earliest(server);
            case 2: return world.latest(server);
            default: return BAD;
        }
    }

    public int pass(int ticks) {
        if (!isWithin(ticks, 1, MOST_TICKS)) {
            return BAD;
        }
        if (world.time + ticks > LAST_TIME) {
            return FULL;
        }
        for (int tick = 0; tick < ticks; tick++) {
            world.tick();
        }
        return world.time;
    }

    public int setState(int server, int state) {
        if (!isServer(server) || !isWithin(state, RUNNING, CRASHED)) {
            return BAD;
        }
        int before = world.servers[server].state;
        world.servers[server].enter(state);
        return before;
    }

    public int setLink(int a, int b, boolean up) {
        if (!isServer(a) || !isServer(b) || a == b) {
            return BAD;
        }
        int before = world.links[a * SERVERS + b];
        int after = up ? 1 : 0;
        world.links[a * SERVERS + b] = after;
        world.links[b * SERVERS + a] = after;
        return before;
    }

    // ---- leases

    public int acquire(int server, int duration) {
        if (!isServer(server) || !isDuration(duration)) {
            return BAD;
        }
        if (world.servers[server].state != RUNNING || world.isHolder(server)) {
            return STATE;
        }
        return world.elect(server, duration);
    }

    public int renew(int server, int duration) {
        if (!isServer(server) || !isDuration(duration)) {
            return BAD;
        }
        if (!world.isHolder(server)) {
            return STATE;
        }
        return world.prolong(server, duration);
    }

    public int giveUp(int server) {
        if (!isServer(server)) {
            return BAD;
        }
        if (!world.isHolder(server)) {
            return STATE;
        }
        return world.abandon(server);
    }

    public int handOver(int server, int heir, int duration) {
        if (!isServer(server) || !isServer(heir) || server == heir || !isDuration(duration)) {
            return BAD;
        }
        if (!world.isHolder(server) || !world.accepts(server, heir)) {
            return STATE;
        }
        world.shareLog(server, heir, world.servers[server].log.committed);
        world.abandon(server);
        return world.elect(heir, duration);
    }

    public int reason(int server) {
        return isServer(server) ? world.reasons[server] : BAD;
    }

    public int holds(int server) {
        if (!isServer(server)) {
            return BAD;
        }
        return world.isHolder(server) ? 1 : 0;
    }

    public int known(int server, int what) {
        if (!isServer(server)) {
            return BAD;
        }
        Server asked = world.servers[server];
        switch (what) {
            case 0: return asked.term;
            case 1: return asked.promiseHolder;
            case 2: return asked.promiseEnd;
            case 3: return asked.leaseTerm;
            case 4: return asked.leaseEnd;
            default: return BAD;
        }
    }

    // ---- the log

    public int write(int server, int key, int value) {
        if (!isServer(server) || !isKey(key) || !isValue(value)) {
            return BAD;
        }
        return world.replicate(server, key, value);
    }

    public int barrier(int server) {
        return isServer(server) ? world.replicate(server, NONE, NONE) : BAD;
    }

    public int read(int server, int key) {
        if (!isServer(server) || !isKey(key)) {
            return BAD;
        }
        Server asked = world.servers[server];
        if (!world.isHolder(server) || asked.log.committed == 0
                || asked.log.lastCommitted(ENTRY_TERM) != asked.leaseTerm) {
            return STATE;
        }
        return asked.log.lastValue(key, END_OF_TIME);
    }

    public int readAt(int server, int key, int time) {
        if (!isServer(server) || !isKey(key) || time < 0) {
            return BAD;
        }
        Server asked = world.servers[server];
        if (asked.state != RUNNING || asked.log.committed == 0 || asked.log.lastCommitted(ENTRY_STAMP) < time) {
            return STATE;
        }
        return asked.log.lastValue(key, time);
    }

    public int log(int server, int what) {
        if (!isServer(server)) {
            return BAD;
        }
        Server asked = world.servers[server];
        switch (what) {
            case 0: return asked.log.entries.size;
            case 1: return asked.log.committed;
            case 2: return asked.log.entries.lastOr(ENTRY_TERM, 0);
            case 3: return asked.log.lastCommitted(ENTRY_STAMP);
            case 4: return asked.owed.size;
            default: return BAD;
        }
    }

    public int entry(int server, int index, int what) {
        if (!isServer(server) || !isWithin(index, 0, world.servers[server].log.entries.size - 1)
                || !isWithin(what, 0, ROW_WIDTH - 1)) {
            return BAD;
        }
        return world.servers[server].log.entries.get(index, what);
    }

    public int agreement(int a, int b) {
        if (!isServer(a) || !isServer(b)) {
            return BAD;
        }
        return world.servers[a].log.entries.sharedStart(world.servers[b].log.entries);
    }

    public int history(int key, int index) {
        if (!isKey(key) || index < 0) {
            return BAD;
        }
        return world.history.valueOf(key, index);
    }

    public int acknowledgement(int index, int what) {
        if (index < 0 || !isWithin(what, 0, ROW_WIDTH - 1)) {
            return BAD;
        }
        return world.given.get(index, what);
    }

    // ---- the store

    public int send(int server, int cell, int value) {
        if (!isServer(server) || !isWithin(cell, 0, CELLS - 1) || !isValue(value)) {
            return BAD;
        }
        if (!world.isHolder(server)) {
            return STATE;
        }
        if (world.messages.isFull()) {
            return FULL;
        }
        world.messages.add(cell, value, world.servers[server].leaseTerm, 0);
        return world.messages.size - 1;
    }

    public int deliver(int message) {
        if (!isWithin(message, 0, world.messages.size - 1)) {
            return BAD;
        }
        if (world.messages.get(message, MESSAGE_DELIVERED) != 0) {
            return STATE;
        }
        return world.bring(message) ? 1 : 0;
    }

    public int cell(int cell, int what) {
        if (!isWithin(cell, 0, CELLS - 1)) {
            return BAD;
        }
        switch (what) {
            case 0: return world.cellValues[cell];
            case 1: return world.cellTokens[cell];
            default: return BAD;
        }
    }

    // ---- analyses; none of them changes anything

    public int safeFor(int server) {
        if (!isServer(server)) {
            return BAD;
        }
        return world.isHolder(server) ? world.servers[server].leaseEnd - world.latest(server) : 0;
    }

    public int waitFor(int server) {
        return isServer(server) ? world.ticksUntilLease(server, 0) : BAD;
    }

    public int leastCrashes() {
        int running = world.runningServers();
        int best = running;
        for (int set = 0; set <= running; set++) {
            boolean onlyRunning = (set & ~running) == 0;
            if (onlyRunning && Integer.bitCount(set) < Integer.bitCount(best) && world.isStoppedWithout(set)) {
                best = set;
            }
        }
        return best;
    }

    public int staleKeys(int server) {
        if (!isServer(server)) {
            return BAD;
        }
        int stale = 0;
        for (int key = 0; key < KEYS; key++) {
            int own = world.servers[server].log.lastValue(key, END_OF_TIME);
            if (own != world.history.lastValue(key, END_OF_TIME)) {
                stale++;
            }
        }
        return stale;
    }

    public int isSafe() {
        boolean safe = Integer.bitCount(world.holders()) <= 1;
        for (int s = 0; s < SERVERS; s++) {
            Log checked = world.servers[s].log;
            safe = safe && checked.isOrdered()
                    && checked.committed <= checked.entries.sharedStart(world.history.entries);
        }
        return safe ? 1 : 0;
    }

    // ---- scenarios

    public int type(int letter) {
        if (!isWithin(letter, 0, MOST_BYTE)) {
            return BAD;
        }
        return scenario.append(letter) ? scenario.length : FULL;
    }

    public int clear() {
        int before = scenario.length;
        scenario.length = 0;
        return before;
    }

    public int run() {
        int fault = scenario.parse();
        if (fault != NO_FAULT) {
            return FAULT_BASE - fault;
        }
        for (int i = 0; i < scenario.calls && i < CALL_LIMIT; i++) {
            scenario.results[i] = makeCall(scenario.letters[i], scenario.numberOf(i, 0),
                    scenario.numberOf(i, 1), scenario.numberOf(i, 2));
        }
        scenario.resultCount = scenario.calls;
        return scenario.resultCount;
    }

    public int result(int index) {
        if (index < 0) {
            return BAD;
        }
        return index < scenario.resultCount && index < CALL_LIMIT ? scenario.results[index] : NONE;
    }

    // ---- snapshots

    public int save(int k) {
        if (!isWithin(k, 0, SNAPSHOTS - 1)) {
            return BAD;
        }
        snapshots[k].copyWorld(world);
        saved[k] = true;
        return world.time;
    }

    public int restore(int k) {
        if (!isWithin(k, 0, SNAPSHOTS - 1)) {
            return BAD;
        }
        if (!saved[k]) {
            return STATE;
        }
        world.copyWorld(snapshots[k]);
        return world.time;
    }

    public int count(int what) {
        switch (what) {
            case 0: return world.time;
            case 1: return world.doubt;
            case 2: return world.history.committed;
            case 3: return world.given.size;
            case 4: return world.everGiven;
            case 5: return world.messages.size;
            case 6: return world.refused;
            case 7: return scenario.length;
            case 8: return scenario.resultCount;
            case 9: return world.holders();
            case 10: return world.linksUp();
            default: return BAD;
        }
    }

    public long digest() {
        long hash = FIRST_HASH;
        for (int what = 0; what < COUNTS; what++) {
            hash = mix(hash, count(what));
        }
        for (int s = 0; s < SERVERS; s++) {
            hash = mixServer(hash, s);
            hash = mixRows(hash, world.servers[s].log.entries);
        }
        hash = mixRows(hash, world.given);
        for (int c = 0; c < CELLS; c++) {
            hash = mix(mix(hash, world.cellValues[c]), world.cellTokens[c]);
        }
        for (int s = 0; s < SERVERS; s++) {
            hash = mix(hash, world.reasons[s]);
        }
        return hash;
    }

    // ---- parts of the methods above

    private static boolean isWithin(int number, int least, int most) {
        return number >= least && number <= most;
    }

    private static boolean isServer(int number) {
        return isWithin(number, 0, SERVERS - 1);
    }

    private static boolean isDuration(int number) {
        return isWithin(number, 1, MOST_DURATION);
    }

    private static boolean isKey(int number) {
        return isWithin(number, 0, KEYS - 1);
    }

    private static boolean isValue(int number) {
        return isWithin(number, 0, MOST_VALUE);
    }

    private int makeCall(int letter, int first, int second, int third) {
        switch (letter) {
            case 'a': return acquire(first, second);
            case 'r': return renew(first, second);
            case 'g': return giveUp(first);
            case 'h': return handOver(first, second, third);
            case 'w': return write(first, second, third);
            case 'b': return barrier(first);
            case 'p': return pass(first);
            case 's': return setState(first, second);
            case 'c': return setLink(first, second, false);
            case 'm': return setLink(first, second, true);
            default: return BAD;
        }
    }

    private static long mix(long hash, int number) {
        return 31L * hash + number;
    }

    private static long mixRows(long hash, Rows rows) {
        long mixed = hash;
        for (int row = 0; row < rows.size; row++) {
            for (int column = 0; column < ROW_WIDTH; column++) {
                mixed = mix(mixed, rows.get(row, column));
            }
        }
        return mixed;
    }

    private long mixServer(long hash, int server) {
        long mixed = mix(hash, clock(server, 0));
        mixed = mix(mixed, world.servers[server].state);
        mixed = mix(mixed, holds(server));
        for (int what = 0; what <= 4; what++) {
            mixed = mix(mixed, known(server, what));
        }
        for (int what = 0; what <= 4; what++) {
            mixed = mix(mixed, log(server, what));
        }
        return mixed;
    }

    /** A list of rows of four numbers with a limit. It is asked for any row, so that no index leaves its array. */
    private static final class Rows {
        final int[] numbers;
        int size;

        Rows(int limit) {
            numbers = new int[Math.max(0, limit) * ROW_WIDTH];
            size = 0;
        }

        boolean isFull() {
            return (size + 1) * ROW_WIDTH > numbers.length;
        }

        int get(int row, int column) {
            if (row < 0 || row >= size || column < 0 || column >= ROW_WIDTH) {
                return NONE;
            }
            return numbers[row * ROW_WIDTH + column];
        }

        void set(int row, int column, int number) {
            if (row >= 0 && row < size && column >= 0 && column < ROW_WIDTH) {
                numbers[row * ROW_WIDTH + column] = number;
            }
        }

        /** A number of the last row, or another one if there is no row. */
        int lastOr(int column, int otherwise) {
            if (size == 0 || column < 0 || column >= ROW_WIDTH) {
                return otherwise;
            }
            return numbers[(size - 1) * ROW_WIDTH + column];
        }

        void add(int first, int second, int third, int fourth) {
            if (isFull()) {
                return;
            }
            int at = size * ROW_WIDTH;
            numbers[at] = first;
            numbers[at + 1] = second;
            numbers[at + 2] = third;
            numbers[at + 3] = fourth;
            size++;
        }

        void dropFirst(int dropped) {
            if (dropped <= 0 || dropped > size) {
                return;
            }
            int left = size - dropped;
            System.arraycopy(numbers, dropped * ROW_WIDTH, numbers, 0, left * ROW_WIDTH);
            size = left;
        }

        void copyRows(Rows other) {
            int length = other.size * ROW_WIDTH;
            if (length > numbers.length) {
                return;
            }
            System.arraycopy(other.numbers, 0, numbers, 0, length);
            size = other.size;
        }

        int sharedStart(Rows other) {
            int most = Math.min(size, other.size) * ROW_WIDTH;
            for (int at = 0; at < most; at++) {
                if (numbers[at] != other.numbers[at]) {
                    return at / ROW_WIDTH;
                }
            }
            return most / ROW_WIDTH;
        }
    }

    /** A log with its committed length. The committed history is one, too, all of it committed. */
    private static final class Log {
        final Rows entries;
        int committed;

        Log() {
            entries = new Rows(LOG_LIMIT);
            committed = 0;
        }

        int lastCommitted(int part) {
            return committed == 0 ? NONE : entries.get(committed - 1, part);
        }

        boolean isAtLeastAsRecentAs(Log other) {
            int own = entries.lastOr(ENTRY_TERM, 0);
            int others = other.entries.lastOr(ENTRY_TERM, 0);
            return own > others || own == others && entries.size >= other.entries.size;
        }

        void append(int term, int key, int value, int latest) {
            int before = entries.lastOr(ENTRY_STAMP, latest - 1);
            entries.add(term, key, value, Math.max(latest, before + 1));
        }

        /** The value of a key in the committed part, as of a time. */
        int lastValue(int key, int time) {
            for (int i = committed - 1; i >= 0; i--) {
                if (entries.get(i, ENTRY_KEY) == key && entries.get(i, ENTRY_STAMP) <= time) {
                    return entries.get(i, ENTRY_VALUE);
                }
            }
            return NONE;
        }

        int valueOf(int key, int index) {
            int found = 0;
            for (int i = 0; i < committed; i++) {
                if (entries.get(i, ENTRY_KEY) == key) {
                    if (found == index) {
                        return entries.get(i, ENTRY_VALUE);
                    }
                    found++;
                }
            }
            return NONE;
        }

        boolean isOrdered() {
            for (int i = 1; i < entries.size; i++) {
                if (entries.get(i, ENTRY_TERM) < entries.get(i - 1, ENTRY_TERM)
                        || entries.get(i, ENTRY_STAMP) <= entries.get(i - 1, ENTRY_STAMP)) {
                    return false;
                }
            }
            return true;
        }

        void copyLog(Log other) {
            entries.copyRows(other.entries);
            committed = other.committed;
        }
    }

    /** What one server has. Without a promise or a lease, their numbers are NONE. */
    private static final class Server {
        final Log log;
        /** In the form of given acknowledgements; the time is put in when they are given. */
        final Rows owed;
        int offset;
        int state;
        int term;
        int promiseHolder;
        int promiseEnd;
        int leaseTerm;
        int leaseEnd;

        Server() {
            log = new Log();
            // Only entries of the log that are committed, and so never leave it, are owed, each once.
            owed = new Rows(LOG_LIMIT);
            offset = 0;
            state = RUNNING;
            term = 0;
            promiseHolder = NONE;
            promiseEnd = NONE;
            leaseTerm = NONE;
            leaseEnd = NONE;
        }

        void enter(int next) {
            state = next;
            if (next == CRASHED) {
                putLease(NONE, NONE);
                owed.size = 0;
            }
        }

        void putPromise(int holder, int end) {
            promiseHolder = holder;
            promiseEnd = end;
        }

        void putLease(int newTerm, int end) {
            leaseTerm = newTerm;
            leaseEnd = end;
        }

        void copyServer(Server other) {
            log.copyLog(other.log);
            owed.copyRows(other.owed);
            offset = other.offset;
            state = other.state;
            term = other.term;
            putPromise(other.promiseHolder, other.promiseEnd);
            putLease(other.leaseTerm, other.leaseEnd);
        }
    }

    /** All that a snapshot saves. Servers are named by numbers that were looked at before. */
    private static final class World {
        final int doubt;
        final Server[] servers;
        /** 1 at a * SERVERS + b and at b * SERVERS + a if the link between a and b is up. */
        final int[] links;
        final int[] reasons;
        final Log history;
        final Rows given;
        final Rows messages;
        final int[] cellValues;
        final int[] cellTokens;
        int time;
        int everGiven;
        int refused;

        World(int doubt) {
            this.doubt = doubt;
            servers = new Server[SERVERS];
            links = new int[SERVERS * SERVERS];
            reasons = new int[SERVERS];
            for (int s = 0; s < SERVERS; s++) {
                servers[s] = new Server();
                reasons[s] = NONE;
            }
            for (int at = 0; at < SERVERS * SERVERS; at++) {
                links[at] = 1;
            }
            history = new Log();
            given = new Rows(GIVEN_LIMIT);
            messages = new Rows(MESSAGE_LIMIT);
            cellValues = new int[CELLS];
            cellTokens = new int[CELLS];
            time = 0;
            everGiven = 0;
            refused = 0;
        }

        int reading(int s) {
            return time + servers[s].offset;
        }

        int earliest(int s) {
            return time + servers[s].offset - doubt;
        }

        int latest(int s) {
            return time + servers[s].offset + doubt;
        }

        boolean isReached(int a, int b) {
            return servers[a].state == RUNNING && servers[b].state == RUNNING
                    && (a == b || links[a * SERVERS + b] == 1);
        }

        boolean isHolder(int s) {
            Server server = servers[s];
            return server.state == RUNNING && server.leaseTerm != NONE && latest(s) < server.leaseEnd;
        }

        int holders() {
            int set = 0;
            for (int s = 0; s < SERVERS; s++) {
                set |= isHolder(s) ? 1 << s : 0;
            }
            return set;
        }

        int runningServers() {
            int set = 0;
            for (int s = 0; s < SERVERS; s++) {
                set |= servers[s].state == RUNNING ? 1 << s : 0;
            }
            return set;
        }

        int linksUp() {
            int up = 0;
            for (int a = 0; a < SERVERS; a++) {
                for (int b = a + 1; b < SERVERS; b++) {
                    up += links[a * SERVERS + b];
                }
            }
            return up;
        }

        // ---- time

        void tick() {
            time++;
            for (int s = 0; s < SERVERS; s++) {
                if (servers[s].state == RUNNING) {
                    giveDue(s);
                }
            }
        }

        private void giveDue(int s) {
            Rows owed = servers[s].owed;
            int due = 0;
            // Entries are owed in the order of the log, so their timestamps ascend.
            while (due < owed.size && owed.get(due, GIVEN_STAMP) < earliest(s)) {
                keepGiven(s, owed.get(due, GIVEN_ENTRY), owed.get(due, GIVEN_STAMP));
                due++;
            }
            owed.dropFirst(due);
        }

        private void keepGiven(int s, int entry, int stamp) {
            if (given.isFull()) {
                given.dropFirst(1);
            }
            given.add(s, entry, stamp, time);
            everGiven++;
        }

        // ---- leases

        int elect(int s, int duration) {
            Server asker = servers[s];
            asker.term++;
            int term = asker.term;
            int end = reading(s) + duration;
            int granted = 0;
            for (int v = 0; v < SERVERS; v++) {
                Server asked = servers[v];
                reasons[v] = answer(s, v, isTooOldFor(s, v, term), true);
                if (reasons[v] == TERM_REFUSES) {
                    asker.term = Math.max(asker.term, asked.term);
                } else if (reasons[v] == GRANTED) {
                    asked.term = Math.max(asked.term, term);
                    asked.putPromise(s, end);
                    granted++;
                }
            }
            if (granted < MAJORITY) {
                asker.putLease(NONE, NONE);
                return NO_MAJORITY - granted;
            }
            asker.putLease(term, end);
            return term;
        }

        int prolong(int s, int duration) {
            Server asker = servers[s];
            int end = reading(s) + duration;
            int granted = 0;
            for (int v = 0; v < SERVERS; v++) {
                Server asked = servers[v];
                boolean own = asked.promiseHolder == s;
                reasons[v] = answer(s, v, asked.term > asker.leaseTerm, !own);
                if (reasons[v] == GRANTED) {
                    asked.term = asker.leaseTerm;
                    asked.putPromise(s, own ? Math.max(end, asked.promiseEnd) : end);
                    granted++;
                }
            }
            if (granted < MAJORITY) {
                return NO_MAJORITY - granted;
            }
            asker.leaseEnd = Math.max(asker.leaseEnd, end);
            return asker.leaseEnd;
        }

        int abandon(int s) {
            servers[s].putLease(NONE, NONE);
            int freed = 0;
            for (int v = 0; v < SERVERS; v++) {
                if (isReached(s, v) && servers[v].promiseHolder == s) {
                    servers[v].putPromise(NONE, NONE);
                    freed++;
                }
            }
            return freed;
        }

        private int answer(int s, int v, boolean termRefuses, boolean logCounts) {
            if (!isReached(s, v)) {
                return UNREACHED;
            }
            if (termRefuses) {
                return TERM_REFUSES;
            }
            if (ticksBound(s, v) > 0) {
                return PROMISE_REFUSES;
            }
            if (logCounts && !servers[s].log.isAtLeastAsRecentAs(servers[v].log)) {
                return LOG_REFUSES;
            }
            return GRANTED;
        }

        private boolean isTooOldFor(int s, int v, int term) {
            return v != s && servers[v].term >= term;
        }

        /** How long v is still bound by a promise to another server than s. */
        private int ticksBound(int s, int v) {
            Server asked = servers[v];
            if (asked.promiseHolder == NONE || asked.promiseHolder == s) {
                return 0;
            }
            return Math.max(0, asked.promiseEnd - earliest(v));
        }

        // ---- writing

        int replicate(int s, int key, int value) {
            Server leader = servers[s];
            if (!isHolder(s)) {
                return STATE;
            }
            if (leader.log.entries.isFull()) {
                return FULL;
            }
            int committedBefore = leader.log.committed;
            leader.log.append(leader.leaseTerm, key, value, latest(s));
            int agreed = 1;
            for (int v = 0; v < SERVERS; v++) {
                if (v != s && accepts(s, v)) {
                    shareLog(s, v, committedBefore);
                    agreed++;
                }
            }
            if (agreed < MAJORITY) {
                return NO_MAJORITY - agreed;
            }
            return commitAll(s);
        }

        boolean accepts(int s, int v) {
            return isReached(s, v) && servers[v].term <= servers[s].leaseTerm;
        }

        void shareLog(int s, int v, int committed) {
            Server follower = servers[v];
            follower.log.entries.copyRows(servers[s].log.entries);
            follower.term = servers[s].leaseTerm;
            follower.log.committed = Math.max(follower.log.committed, committed);
        }

        private int commitAll(int s) {
            Log log = servers[s].log;
            log.committed = log.entries.size;
            if (log.committed > history.committed) {
                history.copyLog(log);
            }
            int last = log.entries.size - 1;
            servers[s].owed.add(s, last, log.entries.get(last, ENTRY_STAMP), NONE);
            return last;
        }

        // ---- the store

        boolean bring(int message) {
            int cell = messages.get(message, MESSAGE_CELL);
            int token = messages.get(message, MESSAGE_TOKEN);
            messages.set(message, MESSAGE_DELIVERED, 1);
            if (!isWithin(cell, 0, CELLS - 1) || token < cellTokens[cell]) {
                refused++;
                return false;
            }
            cellValues[cell] = messages.get(message, MESSAGE_VALUE);
            cellTokens[cell] = token;
            return true;
        }

        // ---- analyses, with the servers of a set thought to be crashed

        boolean isStoppedWithout(int crashed) {
            for (int s = 0; s < SERVERS; s++) {
                if (ticksUntilLease(s, crashed) != NONE) {
                    return false;
                }
            }
            return true;
        }

        /** The smallest number of ticks after which a majority would grant: one of those that a server waits for. */
        int ticksUntilLease(int s, int crashed) {
            int least = NONE;
            for (int v = 0; v < SERVERS; v++) {
                int ticks = ticksUntilGrant(s, v, crashed);
                boolean better = least == NONE || ticks < least;
                if (ticks != NONE && better && grantsAfter(s, ticks, crashed) >= MAJORITY) {
                    least = ticks;
                }
            }
            return least;
        }

        private int grantsAfter(int s, int ticks, int crashed) {
            int granted = 0;
            for (int v = 0; v < SERVERS; v++) {
                int needed = ticksUntilGrant(s, v, crashed);
                if (needed != NONE && needed <= ticks) {
                    granted++;
                }
            }
            return granted;
        }

        private int ticksUntilGrant(int s, int v, int crashed) {
            boolean gone = (crashed >> s & 1) == 1 || (crashed >> v & 1) == 1;
            if (gone || !isReached(s, v) || isTooOldFor(s, v, servers[s].term + 1)
                    || !servers[s].log.isAtLeastAsRecentAs(servers[v].log)) {
                return NONE;
            }
            return ticksBound(s, v);
        }

        // ---- snapshots

        void copyWorld(World other) {
            for (int s = 0; s < SERVERS; s++) {
                servers[s].copyServer(other.servers[s]);
            }
            System.arraycopy(other.links, 0, links, 0, SERVERS * SERVERS);
            System.arraycopy(other.reasons, 0, reasons, 0, SERVERS);
            history.copyLog(other.history);
            given.copyRows(other.given);
            messages.copyRows(other.messages);
            System.arraycopy(other.cellValues, 0, cellValues, 0, CELLS);
            System.arraycopy(other.cellTokens, 0, cellTokens, 0, CELLS);
            time = other.time;
            everGiven = other.everGiven;
            refused = other.refused;
        }
    }

    /** The text, the calls that were read in it, and the results of the latest run. */
    private static final class Scenario {
        final int[] text;
        final int[] letters;
        final int[] numbers;
        final int[] results;
        int length;
        int calls;
        int resultCount;
        /** Of the call that is being read: whether there is one, its numbers, and the digits of an open number. */
        boolean inCall;
        int wanted;
        int taken;
        int digits;

        Scenario() {
            text = new int[TEXT_LIMIT];
            letters = new int[CALL_LIMIT];
            numbers = new int[CALL_LIMIT * CALL_NUMBERS];
            results = new int[CALL_LIMIT];
            length = 0;
            calls = 0;
            resultCount = 0;
            inCall = false;
            wanted = 0;
            taken = 0;
            digits = 0;
        }

        boolean append(int letter) {
            if (length >= TEXT_LIMIT) {
                return false;
            }
            text[length] = letter;
            length++;
            return true;
        }

        int numberOf(int call, int index) {
            int at = call * CALL_NUMBERS + index;
            return isWithin(at, 0, CALL_LIMIT * CALL_NUMBERS - 1) ? numbers[at] : NONE;
        }

        /** Reads the whole text before anything is called. Returns its fault, or NO_FAULT. */
        int parse() {
            calls = 0;
            inCall = false;
            digits = 0;
            for (int at = 0; at < length && at < TEXT_LIMIT; at++) {
                if (!takes(text[at])) {
                    return at;
                }
            }
            return inCall ? length : NO_FAULT;
        }

        private boolean takes(int letter) {
            if (letter >= '0' && letter <= '9') {
                return takesDigit(letter - '0');
            }
            // Anything else ends a number.
            digits = 0;
            if (letter == ' ') {
                return true;
            }
            return letter == ';' ? endsCall() : beginsCall(letter);
        }

        private boolean takesDigit(int digit) {
            boolean begins = digits == 0;
            if (!inCall || begins && taken == wanted || digits == NUMBER_DIGITS) {
                return false;
            }
            taken += begins ? 1 : 0;
            digits++;
            int at = calls * CALL_NUMBERS + taken - 1;
            if (!isWithin(at, 0, CALL_LIMIT * CALL_NUMBERS - 1)) {
                return false;
            }
            numbers[at] = (begins ? 0 : numbers[at] * 10) + digit;
            return true;
        }

        private boolean endsCall() {
            if (!inCall || taken < wanted) {
                return false;
            }
            inCall = false;
            calls++;
            return true;
        }

        private boolean beginsCall(int letter) {
            wanted = numbersOf(letter);
            if (inCall || wanted == 0 || calls >= CALL_LIMIT) {
                return false;
            }
            letters[calls] = letter;
            taken = 0;
            inCall = true;
            return true;
        }

        /** How many numbers follow a letter; 0 if it begins no call. */
        private static int numbersOf(int letter) {
            switch (letter) {
                case 'g': case 'b': case 'p': return 1;
                case 'a': case 'r': case 's': case 'c': case 'm': return 2;
                case 'h': case 'w': return 3;
                default: return 0;
            }
        }
    }
}
