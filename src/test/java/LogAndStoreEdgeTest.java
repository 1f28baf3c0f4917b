/** The edges that the promises 14 to 25 name: the log and the store. */
public final class LogAndStoreEdgeTest extends EdgeTest {
    private static final String SERVER = "`server`: 0 to 4";
    private static final String KEY = "`key`: 0 to 7";
    private static final String VALUE = "`value`: 0 to 999";

    public static void main(String[] args) {
        write();
        barrier();
        read();
        readAt();
        log();
        entry();
        agreement();
        history();
        acknowledgement();
        send();
        deliver();
        cell();
        finish();
    }

    /** Server 4 leads with the term 1 until 100. */
    private static LeaseCluster ledBy4() {
        LeaseCluster x = new LeaseCluster(0);
        x.acquire(4, 100);
        return x;
    }

    /** Server 0 had a lease that ended at 10, and some ticks have passed; an entry was committed. */
    private static LeaseCluster ledUntil10(int ticks) {
        LeaseCluster x = new LeaseCluster(0);
        x.acquire(0, 10);
        x.write(0, 7, 999);
        x.pass(ticks);
        return x;
    }

    /** Server 0 leads; its log has this many entries, all committed. */
    private static LeaseCluster withEntries(int entries) {
        LeaseCluster x = led();
        for (int i = 0; i < entries; i++) {
            x.write(0, 0, i);
        }
        return x;
    }

    private static void write() {
        section("Promise 14: write");
        noEdge("Writes a value.");
        test(SERVER, () -> {
            servers(EdgeTest::led, "write", 0, STATE, (x, s) -> x.write(s, 0, 0));
            servers(LogAndStoreEdgeTest::ledBy4, "write", STATE, 0, (x, s) -> x.write(s, 0, 0));
            servers(EdgeTest::fullLog, "write", FULL, STATE, (x, s) -> x.write(s, 0, 0));
        });
        test(KEY, () -> {
            range(EdgeTest::busy, "write", 0, 3, 7, 3, (x, key) -> x.write(1, key, 0));
            range(EdgeTest::busy, "write without a lease", 0, STATE, 7, STATE, (x, key) -> x.write(0, key, 0));
            range(EdgeTest::fullLog, "write to a full log", 0, FULL, 7, FULL, (x, key) -> x.write(0, key, 0));
        });
        test(VALUE, () -> {
            range(EdgeTest::busy, "write", 0, 3, 999, 3, (x, value) -> x.write(1, 0, value));
            range(EdgeTest::busy, "write without a lease", 0, STATE, 999, STATE, (x, value) -> x.write(0, 0, value));
            range(EdgeTest::fullLog, "write to a full log", 0, FULL, 999, FULL, (x, value) -> x.write(0, 0, value));
        });
        test("Returns the number of the entry, if it is committed; -10 - n if only n servers agree; BAD;", () -> {
            for (int running = 1; running <= 5; running++) {
                LeaseCluster x = led();
                for (int v = running; v < 5; v++) {
                    x.setState(v, 1);
                }
                due(running + " agree", x.write(0, 0, 0), running < 3 ? -10 - running : 0);
                due("committed", x.count(2), running < 3 ? 0 : 1);
            }
            due("the last number", withEntries(39).write(0, 0, 0), 39);
            LeaseCluster last = withEntries(39);
            state(last, 2, 2, 3, 4);
            due("the last entry, without a majority", last.write(0, 0, 0), -12);
            due("then the log is full", last.write(0, 0, 0), FULL);
        });
        test("STATE if the server does not hold its lease;", () -> {
            refused(EdgeTest::fresh, "write without a lease", x -> x.write(0, 0, 0), STATE);
            refused(() -> ledUntil10(10), "write at the end", x -> x.write(0, 0, 0), STATE);
            due("a tick before", ledUntil10(9).write(0, 0, 0), 1);
        });
        test("FULL if its log has 40 entries.", () -> {
            refused(EdgeTest::fullLog, "the 41st", x -> x.write(0, 0, 0), FULL);
            due("the 40th", withEntries(39).write(0, 0, 0), 39);
            // The log of another server does not matter: 1 has a full log, the new leader 0 has 39 entries.
            LeaseCluster x = withEntries(39);
            x.handOver(0, 1, 50);
            state(x, 1, 0, 3, 4);
            due("the 40th, without a majority", x.write(1, 0, 0), -12);
            state(x, 1, 2);
            state(x, 0, 0, 3, 4);
            x.pass(50);
            x.setState(1, 1);
            x.acquire(0, 50);
            x.setState(2, 0);
            due("0 leads by 0, 3 and 4", x.holds(0), 1);
            x.setState(1, 0);
            due("the log of 1", x.log(1, 0), 40);
            due("that of 0", x.log(0, 0), 39);
            due("0 writes its 40th", x.write(0, 7, 7), 39);
            due("which replaces that of 1", x.entry(1, 39, 1), 7);
        });
    }

    private static void barrier() {
        section("Promise 15: barrier");
        noEdge("Writes a barrier.");
        test(SERVER, () -> {
            servers(EdgeTest::led, "barrier", 0, STATE, (x, s) -> x.barrier(s));
            servers(LogAndStoreEdgeTest::ledBy4, "barrier", STATE, 0, (x, s) -> x.barrier(s));
            servers(EdgeTest::fullLog, "barrier", FULL, STATE, (x, s) -> x.barrier(s));
        });
        test("Returns as for write().", () -> {
            for (int running = 1; running <= 5; running++) {
                LeaseCluster x = led();
                for (int v = running; v < 5; v++) {
                    x.setState(v, 2);
                }
                due(running + " agree", x.barrier(0), running < 3 ? -10 - running : 0);
            }
            due("the 40th", withEntries(39).barrier(0), 39);
            refused(EdgeTest::fullLog, "the 41st", x -> x.barrier(0), FULL);
            refused(() -> ledUntil10(10), "barrier at the end", x -> x.barrier(0), STATE);
            due("a tick before", ledUntil10(9).barrier(0), 1);
        });
    }

    private static void read() {
        section("Promise 16: read");
        noEdge("Reads a value from the leader's own log.");
        test(SERVER, () -> servers(EdgeTest::fullLog, "read", 32, STATE, (x, s) -> x.read(s, 0)));
        test(KEY, () -> {
            range(EdgeTest::fullLog, "read", 0, 32, 7, 39, (x, key) -> x.read(0, key));
            range(EdgeTest::busy, "read without a lease", 0, STATE, 7, STATE, (x, key) -> x.read(0, key));
        });
        test("Returns the value of the last entry with this key in the committed part of the server's log; NONE if"
                + " there is none; BAD;", () -> {
            LeaseCluster x = led();
            x.barrier(0);
            due("no entry with a key", x.read(0, 0), NONE);
            x.write(0, 0, 0);
            due("the least value", x.read(0, 0), 0);
            due("another key", x.read(0, 1), NONE);
            x.write(0, 0, 999);
            due("the greatest, the last", x.read(0, 0), 999);
            x.write(0, 1, 5);
            due("not of the last entry", x.read(0, 0), 999);
            state(x, 1, 2, 3, 4);
            x.write(0, 0, 1);
            due("not what is not committed", x.read(0, 0), 999);
            state(x, 0, 2);
            x.barrier(0);
            due("when it is committed", x.read(0, 0), 1);
        });
        test("STATE if the server does not hold its lease, or the last entry of the committed part does not have the"
                + " term of the lease (or there is none).", LogAndStoreEdgeTest::noRead);
    }

    private static void noRead() {
        due("a tick before the end", ledUntil10(9).read(0, 7), 999);
        refused(() -> ledUntil10(10), "read at the end", x -> x.read(0, 7), STATE);
        refused(EdgeTest::busy, "read by another", x -> x.read(0, 3), STATE);
        refused(EdgeTest::led, "read with nothing committed", x -> x.read(0, 7), STATE);
        LeaseCluster x = led();
        state(x, 1, 2, 3, 4);
        x.write(0, 7, 1);
        due("an entry of the term, but not committed", x.read(0, 7), STATE);
        LeaseCluster y = ledUntil10(10);
        y.acquire(0, 10);
        due("the committed entry has the term before", y.read(0, 7), STATE);
        state(y, 1, 2, 3, 4);
        y.barrier(0);
        due("an entry of the term that is not committed does not help", y.read(0, 7), STATE);
        state(y, 0, 2);
        y.barrier(0);
        due("a committed one does", y.read(0, 7), 999);
    }

    /** Server 0 leads; entries with the key 7 at 1 and 4, a barrier at 7, all committed. */
    private static LeaseCluster timed() {
        LeaseCluster x = led();
        x.pass(1);
        x.write(0, 7, 5);
        x.pass(3);
        x.write(0, 7, 6);
        x.pass(3);
        x.barrier(0);
        return x;
    }

    private static void readAt() {
        section("Promise 17: readAt");
        noEdge("Reads a value as of some time from any running server.");
        test(SERVER, () -> {
            servers(LogAndStoreEdgeTest::timed, "readAt", 6, 6, (x, s) -> x.readAt(s, 7, 4));
            servers(EdgeTest::busy, "readAt", 33, STATE, (x, s) -> x.readAt(s, 3, 2));
        });
        test(KEY, () -> {
            range(EdgeTest::fullLog, "readAt", 0, 32, 7, 39, (x, key) -> x.readAt(0, key, 39));
            range(EdgeTest::busy, "readAt of a paused server", 0, STATE, 7, STATE, (x, key) -> x.readAt(4, key, 0));
        });
        test("`time`: the time, 0 or greater", () -> {
            due("0", fullLog().readAt(0, 0, 0), 0);
            due("the greatest number", fullLog().readAt(0, 0, MAX), STATE);
            for (int time : new int[] {-1, MIN}) {
                refused(EdgeTest::fullLog, "readAt(0, 0, " + time + ")", x -> x.readAt(0, 0, time), BAD);
                refused(EdgeTest::busy, "readAt(4, 0, " + time + ")", x -> x.readAt(4, 0, time), BAD);
            }
        });
        test("Returns the value of the last entry with this key and a timestamp of at most this time in the committed"
                + " part of the server's log; NONE if there is none; BAD;", () -> {
            int[] due = {NONE, 5, 5, 5, 6, 6, 6, 6, STATE};
            for (int time = 0; time < due.length; time++) {
                due("at " + time, timed().readAt(0, 7, time), due[time]);
                due("another key at " + time, timed().readAt(0, 6, time), time < 8 ? NONE : STATE);
            }
            LeaseCluster x = timed();
            state(x, 1, 2, 3, 4);
            x.write(0, 7, 9);
            due("not what is not committed", x.readAt(0, 7, 7), 6);
        });
        test("STATE if the server is not running, or the last entry of the committed part has a timestamp that is less"
                + " than this time (or there is none).", () -> {
            refused(EdgeTest::busy, "readAt of a paused server", x -> x.readAt(4, 3, 2), STATE);
            LeaseCluster crashed = timed();
            crashed.setState(0, 2);
            due("crashed", crashed.readAt(0, 7, 4), STATE);
            due("the time of the last entry", timed().readAt(0, 7, 7), 6);
            refused(LogAndStoreEdgeTest::timed, "a tick after it", x -> x.readAt(0, 7, 8), STATE);
            due("another knows of the entry at 4", timed().readAt(1, 7, 4), 6);
            refused(LogAndStoreEdgeTest::timed, "a tick after that", x -> x.readAt(1, 7, 5), STATE);
            refused(EdgeTest::led, "nothing is committed", x -> x.readAt(0, 7, 0), STATE);
            LeaseCluster x = led();
            state(x, 1, 2, 3, 4);
            x.write(0, 7, 1);
            due("an entry, but not committed", x.readAt(0, 7, 0), STATE);
            LeaseCluster without = timed();
            without.giveUp(0);
            due("no lease is needed", without.readAt(0, 7, 7), 6);
        });
    }

    private static void log() {
        section("Promise 18: log");
        noEdge("Returns a number of a server's log.");
        test(SERVER, () -> servers(EdgeTest::busy, "log", 3, 2, (x, s) -> x.log(s, 0)));
        test("`what`: 0: the number of its entries; 1: its committed length; 2: the term of the last entry, 0 if it is"
                + " empty; 3: the timestamp of the last committed entry, NONE if there is none; 4: the"
                + " acknowledgements that the server has to give", () -> {
            range(EdgeTest::busy, "log", 0, 3, 4, 1, (x, what) -> x.log(1, what));
            dueAll("empty", log(fresh(), 4), 0, 0, 0, NONE, 0);
            dueAll("full", log(fullLog(), 0), 40, 40, 1, 39, 40);
            dueAll("of another", log(fullLog(), 4), 40, 39, 1, 38, 0);
            dueAll("of the leader", log(busy(), 1), 3, 3, 2, 9, 1);
            dueAll("of the one before", log(busy(), 0), 3, 2, 2, 8, 1);
            LeaseCluster x = led();
            state(x, 1, 2, 3, 4);
            x.write(0, 0, 0);
            dueAll("not committed", log(x, 0), 1, 0, 1, NONE, 0);
        });
        test("Returns the number; BAD.", () -> {
            LeaseCluster x = led();
            x.write(0, 0, 0);
            due("a timestamp of 0", x.log(0, 3), 0);
            due("BAD", x.log(0, 5), BAD);
        });
    }

    private static void entry() {
        section("Promise 19: entry");
        noEdge("Returns a part of an entry.");
        test(SERVER, () -> servers(EdgeTest::busy, "entry", 33, 33, (x, s) -> x.entry(s, 0, 2)));
        test("`index`: number of the entry", () -> {
            range(EdgeTest::fullLog, "entry", 0, 0, 39, 39, (x, index) -> x.entry(0, index, 2));
            range(EdgeTest::busy, "entry", 0, 3, 1, 4, (x, index) -> x.entry(4, index, 1));
            for (int index : new int[] {-1, 0, 1, 39, 40, MIN, MAX}) {
                refused(EdgeTest::fresh, "entry(0, " + index + ", 0) of an empty log", x -> x.entry(0, index, 0), BAD);
            }
        });
        test("`what`: 0: its term; 1: its key, 2: its value (both NONE for a barrier); 3: its timestamp", () -> {
            range(EdgeTest::busy, "entry", 0, 1, 3, 8, (x, what) -> x.entry(1, 1, what));
            int[] value = {1, 4, 44, 8};
            int[] barrier = {2, NONE, NONE, 9};
            for (int what = 0; what <= 3; what++) {
                due("of a value", busy().entry(1, 1, what), value[what]);
                due("of a barrier", busy().entry(1, 2, what), barrier[what]);
            }
        });
        test("Returns the part; BAD.", () -> {
            LeaseCluster x = led();
            x.write(0, 0, 0);
            x.write(0, 7, 999);
            due("the least key", x.entry(0, 0, 1), 0);
            due("the least value", x.entry(0, 0, 2), 0);
            due("the greatest key", x.entry(0, 1, 1), 7);
            due("the greatest value", x.entry(0, 1, 2), 999);
            due("no entry", x.entry(0, 2, 2), BAD);
        });
    }

    private static void agreement() {
        section("Promise 20: agreement");
        test("Returns how many first entries are the same (in all parts) in two logs.", () -> {
            due("empty logs", fresh().agreement(0, 4), 0);
            due("full logs", fullLog().agreement(0, 4), 40);
            LeaseCluster x = led();
            x.write(0, 1, 1);
            x.setState(4, 1);
            x.write(0, 1, 1);
            due("a beginning", x.agreement(4, 0), 1);
            due("the other way", x.agreement(0, 4), 1);
            LeaseCluster none = led();
            none.setState(4, 1);
            none.write(0, 1, 1);
            due("an empty log and another", none.agreement(0, 4), 0);
            due("the other way", none.agreement(4, 0), 0);
            for (int index = 0; index < 3; index++) {
                due("another term", differing(index, 0), index);
                due("another key", differing(index, 1), index);
                due("another value", differing(index, 2), index);
                due("another timestamp", differing(index, 3), index);
            }
            due("what is beyond a log of two entries", shortAgain(), 1);
        });
        test("`a`: a server, 0 to 4", () -> servers(EdgeTest::busy, "agreement", 2, 2, (x, a) -> x.agreement(a, 4)));
        test("`b`: a server, perhaps the same", () -> {
            servers(EdgeTest::busy, "agreement", 3, 2, (x, b) -> x.agreement(0, b));
            for (int s = 0; s <= 4; s++) {
                due("the same", busy().agreement(s, s), s == 4 ? 2 : 3);
                due("the same, empty", fresh().agreement(s, s), 0);
                due("the same, full", fullLog().agreement(s, s), 40);
            }
        });
        test("Returns the number; BAD.", () -> {
            for (int s : new int[] {-1, 5, MIN, MAX}) {
                refused(EdgeTest::busy, "agreement(" + s + ", " + s + ")", x -> x.agreement(s, s), BAD);
            }
        });
    }

    /** The agreement of two logs of three entries that differ in one part of one entry. */
    private static int differing(int index, int part) {
        LeaseCluster x = withEntries(3);
        // By calls alone terms and timestamps differ together, so the other part is put in by the inside.
        int[] numbers = (int[]) inside(x, "world", "servers", "4", "log", "entries", "numbers");
        numbers[4 * index + part]++;
        return x.agreement(0, 4);
    }

    /** All logs had the same two entries; then the second was undone, and made again without server 4. */
    private static int shortAgain() {
        LeaseCluster x = withEntries(1);
        x.save(0);
        x.write(0, 1, 1);
        x.restore(0);
        x.setState(4, 1);
        x.write(0, 1, 1);
        return x.agreement(0, 4);
    }

    private static void history() {
        section("Promise 21: history");
        noEdge("Returns a value of a key in the committed history.");
        test(KEY, () -> range(EdgeTest::fullLog, "history", 0, 0, 7, 7, (x, key) -> x.history(key, 0)));
        test("`index`: which of the entries with this key, from 0, in their order", () -> {
            for (int i = 0; i < 5; i++) {
                due("entry " + i, fullLog().history(7, i), 8 * i + 7);
            }
        });
        test("Returns the value; NONE if there are not so many; BAD, also if index is negative.", () -> {
            due("the last", fullLog().history(7, 4), 39);
            due("one more", fullLog().history(7, 5), NONE);
            due("the greatest number", fullLog().history(7, MAX), NONE);
            for (int index : new int[] {-1, MIN}) {
                refused(EdgeTest::busy, "history(3, " + index + ")", x -> x.history(3, index), BAD);
            }
            for (int key = 0; key < 8; key++) {
                due("empty", fresh().history(key, 0), NONE);
            }
            due("all 40 of one key", withEntries(40).history(0, 39), 39);
            due("and no more", withEntries(40).history(0, 40), NONE);
            due("barriers have no key", busy().history(4, 1), NONE);
            due("the number of barriers is no key", busy().history(NONE, 0), BAD);
        });
    }

    private static void acknowledgement() {
        section("Promise 22: acknowledgement");
        noEdge("Returns a part of an acknowledgement that was given.");
        test("The latest 50 are kept.", LogAndStoreEdgeTest::fiftyAreKept);
        test("`index`: 0 for the oldest one that is kept", () -> {
            LeaseCluster x = fullLog();
            x.pass(200);
            due("the oldest", x.acknowledgement(0, 1), 0);
            due("the latest", x.acknowledgement(39, 1), 39);
        });
        test("`what`: 0: the server that gave it; 1: the number of the entry; 2: its timestamp; 3: the true time when"
                + " it was given", () -> {
            range(EdgeTest::busy, "acknowledgement", 0, 0, 3, 5, (x, what) -> x.acknowledgement(0, what));
            range(EdgeTest::busy, "one that is not there", 0, NONE, 3, NONE, (x, what) -> x.acknowledgement(1, what));
            due("the entry", busy().acknowledgement(0, 1), 0);
            due("the timestamp", busy().acknowledgement(0, 2), 2);
            LeaseCluster x = ledBy4();
            x.write(4, 0, 0);
            x.write(4, 0, 0);
            x.pass(2);
            due("the last server", x.acknowledgement(1, 0), 4);
            due("the second entry", x.acknowledgement(1, 1), 1);
        });
        test("Returns the part; NONE if there are not so many; BAD, also if index is negative.", () -> {
            due("none at first", fresh().acknowledgement(0, 0), NONE);
            due("the only one", busy().acknowledgement(0, 0), 0);
            due("one more", busy().acknowledgement(1, 0), NONE);
            due("the greatest number", busy().acknowledgement(MAX, 3), NONE);
            for (int index : new int[] {-1, MIN}) {
                refused(EdgeTest::busy, "acknowledgement(" + index + ", 0)", x -> x.acknowledgement(index, 0), BAD);
                refused(EdgeTest::fresh, "acknowledgement(" + index + ", 0)", x -> x.acknowledgement(index, 0), BAD);
            }
        });
    }

    /** By calls no more than 40 can be given, one for each entry; so there are 48 already, by the inside. */
    private static void fiftyAreKept() {
        LeaseCluster x = led();
        Object given = inside(x, "world", "given");
        int[] numbers = (int[]) inside(given, "numbers");
        for (int i = 0; i < 48; i++) {
            numbers[4 * i + 1] = 100 + i;
        }
        put(given, "size", 48);
        put(inside(x, "world"), "everGiven", 48);
        x.write(0, 0, 0);
        x.write(0, 0, 0);
        x.write(0, 0, 0);
        x.write(0, 0, 0);
        x.pass(2);
        due("50 are kept", x.count(3), 50);
        due("of 50", x.count(4), 50);
        due("the oldest", x.acknowledgement(0, 1), 100);
        due("the latest", x.acknowledgement(49, 1), 1);
        x.pass(1);
        due("still 50 are kept", x.count(3), 50);
        due("of 51", x.count(4), 51);
        due("the second is the oldest now", x.acknowledgement(0, 1), 101);
        due("the latest", x.acknowledgement(49, 1), 2);
        due("there is no 50", x.acknowledgement(50, 1), NONE);
        x.pass(1);
        due("of 52", x.count(4), 52);
        due("the third is the oldest now", x.acknowledgement(0, 1), 102);
    }

    private static void send() {
        section("Promise 23: send");
        noEdge("Sends a message to the store.");
        test(SERVER, () -> {
            servers(EdgeTest::led, "send", 0, STATE, (x, s) -> x.send(s, 0, 0));
            servers(LogAndStoreEdgeTest::ledBy4, "send", STATE, 0, (x, s) -> x.send(s, 0, 0));
            servers(EdgeTest::fullStore, "send", FULL, STATE, (x, s) -> x.send(s, 0, 0));
        });
        test("`cell`: 0 to 3", () -> {
            range(EdgeTest::busy, "send", 0, 3, 3, 3, (x, cell) -> x.send(1, cell, 0));
            range(EdgeTest::busy, "send without a lease", 0, STATE, 3, STATE, (x, cell) -> x.send(0, cell, 0));
            range(EdgeTest::fullStore, "send to a full store", 0, FULL, 3, FULL, (x, cell) -> x.send(0, cell, 0));
        });
        test(VALUE, () -> {
            range(EdgeTest::busy, "send", 0, 3, 999, 3, (x, value) -> x.send(1, 0, value));
            range(EdgeTest::busy, "send without a lease", 0, STATE, 999, STATE, (x, value) -> x.send(0, 0, value));
            range(EdgeTest::fullStore, "send to a full store", 0, FULL, 999, FULL, (x, value) -> x.send(0, 0, value));
        });
        test("Returns the number of the message, from 0; BAD;", () -> {
            LeaseCluster x = led();
            for (int i = 0; i < 20; i++) {
                due("its number", x.send(0, 3, 999), i);
            }
        });
        test("STATE if the server does not hold its lease;", () -> {
            refused(EdgeTest::fresh, "send without a lease", x -> x.send(0, 0, 0), STATE);
            refused(() -> ledUntil10(10), "send at the end", x -> x.send(0, 0, 0), STATE);
            due("a tick before", ledUntil10(9).send(0, 0, 0), 0);
        });
        test("FULL if there are 20 messages.", () -> {
            refused(EdgeTest::fullStore, "the 21st", x -> x.send(0, 0, 0), FULL);
            LeaseCluster x = led();
            for (int i = 0; i < 19; i++) {
                x.send(0, 0, 0);
                x.deliver(i);
            }
            due("the 20th", x.send(0, 0, 0), 19);
            due("the 21st, though 19 are delivered", x.send(0, 0, 0), FULL);
        });
    }

    private static void deliver() {
        section("Promise 24: deliver");
        noEdge("Delivers a message.");
        test("`message`: its number", () -> {
            range(EdgeTest::fullStore, "deliver", 0, 1, 19, 1, (x, message) -> x.deliver(message));
            range(EdgeTest::busy, "deliver", 0, STATE, 2, STATE, (x, message) -> x.deliver(message));
            for (int message : new int[] {-1, 0, 1, 19, 20, MIN, MAX}) {
                refused(EdgeTest::led, "deliver(" + message + ") without messages", x -> x.deliver(message), BAD);
            }
        });
        test("Returns 1 if it is accepted, 0 if it is refused; BAD;", () -> {
            due("a token that is less", busy().deliver(1), 0);
            LeaseCluster x = led();
            x.send(0, 0, 0);
            x.send(0, 0, 999);
            due("a token that is greater than 0", x.deliver(1), 1);
            due("an equal token", x.deliver(0), 1);
            due("the least value", x.cell(0, 0), 0);
        });
        test("STATE if it was delivered before.", () -> {
            refused(EdgeTest::busy, "one that was refused", x -> x.deliver(0), STATE);
            refused(EdgeTest::busy, "one that was accepted", x -> x.deliver(2), STATE);
            LeaseCluster x = busy();
            x.restore(0);
            due("before it was delivered, after restore()", x.deliver(0), 1);
        });
    }

    private static void cell() {
        section("Promise 25: cell");
        noEdge("Returns a part of a cell.");
        test("`cell`: 0 to 3", () -> {
            range(EdgeTest::busy, "cell", 0, 0, 3, 0, (x, cell) -> x.cell(cell, 0));
            LeaseCluster x = fullStore();
            for (int i = 0; i < 4; i++) {
                x.deliver(i);
                due("the value of " + i, x.cell(i, 0), 100 + i);
            }
        });
        test("`what`: 0: its value; 1: its token", () ->
                range(EdgeTest::busy, "cell", 0, 52, 1, 2, (x, what) -> x.cell(1, what)));
        test("Returns the part; BAD.", () -> {
            LeaseCluster x = led();
            x.send(0, 3, 999);
            x.send(0, 0, 0);
            x.deliver(0);
            x.deliver(1);
            due("the greatest value", x.cell(3, 0), 999);
            due("the least value", x.cell(0, 0), 0);
            due("with its token", x.cell(0, 1), 1);
        });
    }
}
