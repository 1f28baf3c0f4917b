import java.util.ArrayList;
import java.util.List;
import java.util.function.Supplier;
import java.util.function.ToLongFunction;

/** The edges that the sections "What it is" and "Terms" name, a test for each sentence, and the examples. */
public final class TermsEdgeTest extends EdgeTest {
    private static final String LETTERS = "argscmhwbp";

    public static void main(String[] args) {
        whatItIs();
        face();
        section("Terms");
        introduction();
        errors();
        timeAndClocks();
        servers();
        leases();
        acquiring();
        renewing();
        givingUp();
        writing();
        acknowledging();
        history();
        store();
        scenarios();
        examples();
        remarks();
        finish();
    }

    private static void whatItIs() {
        section("What it is");
        noEdge("A simulator of a replicated log whose leader works under time leases, with clocks of bounded doubt.");
        test("An object is used for at most 512 calls after it has been made; what later calls answer is free.",
                TermsEdgeTest::lastCall);
    }

    private static void lastCall() {
        LeaseCluster x = new LeaseCluster(0);
        due("call 1", x.acquire(0, 100), 1);
        due("call 2", x.write(0, 7, 999), 0);
        for (int i = 1; i <= 254; i++) {
            due("renew(0, 100)", x.renew(0, 100), 99 + i);
            due("pass(1)", x.pass(1), i);
        }
        due("call 511", x.count(4), 1);
        due("call 512", x.read(0, 7), 999);
        LeaseCluster y = new LeaseCluster(20);
        links(y, 4, false);
        for (int call = 5; call <= 511; call++) {
            due("acquire(4, 100)", y.acquire(4, 100), -11);
        }
        due("call 512", y.known(4, 0), 507);
    }

    private static void face() {
        partOf("The public face");
        test("public static final int NONE = -1000, BAD = -1001, STATE = -1002, FULL = -1003;", () -> {
            due("NONE", LeaseCluster.NONE, -1000);
            due("BAD", LeaseCluster.BAD, -1001);
            due("STATE", LeaseCluster.STATE, -1002);
            due("FULL", LeaseCluster.FULL, -1003);
        });
    }

    private static void introduction() {
        noEdge("Five servers elect a leader for a limited time, replicate writes to majorities, answer reads from the"
                + " leader without asking others, hand the lease over to a chosen heir, and wait out the doubt of the"
                + " clocks before they acknowledge writes. An external store refuses writes of stale leaders by"
                + " fencing tokens. Servers can be paused or crash, links can be cut, and time passes only when told."
                + " The class also tells how long a lease is safe, when another server could be elected, how few"
                + " crashes would stop all elections, and which local reads would be stale; scenarios can be given as"
                + " texts.");
    }

    // ---- errors

    private static void errors() {
        test("Errors. A method reports an error by one of the codes BAD (an argument is out of range, or names"
                + " something that does not exist), STATE (the call is not possible at present, as described) and"
                + " FULL (a limit is reached).", TermsEdgeTest::codes);
        test("If several of them apply, the one that comes first in the description of the result is returned.",
                TermsEdgeTest::firstOfSeveral);
        test("NONE is not an error; it means that there is no such thing, and is returned only if no error applies.",
                TermsEdgeTest::noneAfterErrors);
        test("A call that returns an error changes nothing.", TermsEdgeTest::errorsChangeNothing);
        test("A result of -10 - n, where n is 0, 1 or 2, means that only n servers agreed, which is no majority (a"
                + " majority is at least 3 servers); this is not an error, and such a call may have changed"
                + " something, as described.", TermsEdgeTest::noMajority);
    }

    private static void codes() {
        due("out of range", led().write(0, 8, 0), BAD);
        due("no such entry", led().entry(0, 0, 0), BAD);
        due("no such message", led().deliver(0), BAD);
        due("not possible at present", fresh().renew(0, 1), STATE);
        due("a limit of the log", fullLog().write(0, 0, 0), FULL);
        due("a limit of the store", fullStore().send(0, 0, 0), FULL);
        due("a limit of the text", fullText().type(0), FULL);
        due("a limit of the time", late(0).pass(1), FULL);
    }

    private static LeaseCluster fullLogWithoutLease() {
        LeaseCluster x = fullLog();
        x.pass(100);
        return x;
    }

    private static LeaseCluster fullStoreWithoutLease() {
        LeaseCluster x = fullStore();
        x.pass(100);
        return x;
    }

    private static void firstOfSeveral() {
        due("pass: BAD, FULL", late(0).pass(201), BAD);
        due("acquire: BAD, STATE as it holds", busy().acquire(1, 0), BAD);
        due("acquire: BAD, STATE as it is paused", busy().acquire(4, 101), BAD);
        due("renew: BAD, STATE", busy().renew(0, 101), BAD);
        due("handOver: BAD by the heir, STATE", busy().handOver(0, 5, 1), BAD);
        due("handOver: BAD by the same, STATE", busy().handOver(0, 0, 1), BAD);
        due("handOver: BAD by the duration, STATE by the holder", busy().handOver(0, 1, 0), BAD);
        due("handOver: BAD by the duration, STATE by the heir", busy().handOver(1, 4, 101), BAD);
        due("write: BAD by the key, STATE", busy().write(0, 8, 0), BAD);
        due("write: BAD by the value, STATE", busy().write(0, 0, 1000), BAD);
        due("write: BAD by the key, FULL", fullLog().write(0, -1, 0), BAD);
        due("write: BAD by the value, FULL", fullLog().write(0, 0, -1), BAD);
        due("write: BAD, STATE, FULL", fullLogWithoutLease().write(0, 8, 0), BAD);
        due("write: STATE, FULL", fullLogWithoutLease().write(0, 0, 0), STATE);
        due("barrier: STATE, FULL", fullLogWithoutLease().barrier(0), STATE);
        due("read: BAD, STATE", busy().read(0, 8), BAD);
        due("readAt: BAD by the key, STATE", busy().readAt(4, 8, 0), BAD);
        due("readAt: BAD by the time, STATE", busy().readAt(4, 3, -1), BAD);
        due("send: BAD by the cell, STATE", busy().send(0, 4, 0), BAD);
        due("send: BAD by the value, STATE", busy().send(0, 0, 1000), BAD);
        due("send: BAD by the cell, FULL", fullStore().send(0, 4, 0), BAD);
        due("send: BAD by the value, FULL", fullStore().send(0, 0, 1000), BAD);
        due("send: BAD, STATE, FULL", fullStoreWithoutLease().send(0, 4, 0), BAD);
        due("send: STATE, FULL", fullStoreWithoutLease().send(0, 0, 0), STATE);
        due("type: BAD, FULL", fullText().type(128), BAD);
        due("restore: BAD, nothing saved", fresh().restore(2), BAD);
    }

    private static void noneAfterErrors() {
        due("reason: no call yet", fresh().reason(4), NONE);
        due("reason: nor a server", fresh().reason(5), BAD);
        due("known: no promise", fresh().known(4, 1), NONE);
        due("known: nor a server", fresh().known(5, 1), BAD);
        due("read: no value, no entry of the term", led().read(0, 3), STATE);
        LeaseCluster x = led();
        x.barrier(0);
        due("read: no value", x.read(0, 3), NONE);
        due("read: nor a key", x.read(0, 8), BAD);
        due("readAt: no value", x.readAt(0, 3, 0), NONE);
        due("readAt: no value, too late", x.readAt(0, 3, 1), STATE);
        due("readAt: nor a key", x.readAt(0, 8, 0), BAD);
        due("log: nothing committed", x.log(1, 3), NONE);
        due("log: nor a server", x.log(5, 3), BAD);
        due("entry: a barrier has no key", x.entry(0, 0, 1), NONE);
        due("entry: there is no such entry", x.entry(0, 1, 1), BAD);
        due("history: no value", x.history(3, 0), NONE);
        due("history: nor a key", x.history(8, 0), BAD);
        due("acknowledgement: none", x.acknowledgement(0, 3), NONE);
        due("acknowledgement: nor a part", x.acknowledgement(0, 4), BAD);
        due("waitFor: never", busy().waitFor(4), NONE);
        due("waitFor: nor a server", busy().waitFor(5), BAD);
        due("result: no call", fresh().result(0), NONE);
        due("result: nor an index", fresh().result(-1), BAD);
    }

    private record Refusal(String call, Supplier<LeaseCluster> state, ToLongFunction<LeaseCluster> made, int error) { }

    private static List<Refusal> refusals = new ArrayList<>();

    private static void add(Supplier<LeaseCluster> state, int error, String call, ToLongFunction<LeaseCluster> made) {
        refusals.add(new Refusal(call, state, made, error));
    }

    private static void bad(String call, ToLongFunction<LeaseCluster> made) {
        add(EdgeTest::busy, BAD, call, made);
    }

    private static void state(String call, ToLongFunction<LeaseCluster> made) {
        add(EdgeTest::busy, STATE, call, made);
    }

    private static void errorsChangeNothing() {
        addBadOfTimeAndLeases();
        addBadOfTheRest();
        addStates();
        addFulls();
        for (Refusal one : refusals) {
            refused(one.state(), one.call(), one.made(), one.error());
        }
    }

    private static void addBadOfTimeAndLeases() {
        bad("setClock(5, 1)", x -> x.setClock(5, 1));
        bad("setClock(1, 3)", x -> x.setClock(1, 3));
        bad("clock(5, 0)", x -> x.clock(5, 0));
        bad("clock(0, 3)", x -> x.clock(0, 3));
        bad("pass(0)", x -> x.pass(0));
        bad("pass(201)", x -> x.pass(201));
        bad("setState(5, 0)", x -> x.setState(5, 0));
        bad("setState(1, 3)", x -> x.setState(1, 3));
        bad("setState(1, -1)", x -> x.setState(1, -1));
        bad("setLink(5, 0)", x -> x.setLink(5, 0, false));
        bad("setLink(2, 5)", x -> x.setLink(2, 5, false));
        bad("setLink(2, 2)", x -> x.setLink(2, 2, false));
        bad("acquire(5, 1)", x -> x.acquire(5, 1));
        bad("acquire(0, 101)", x -> x.acquire(0, 101));
        bad("renew(5, 1)", x -> x.renew(5, 1));
        bad("renew(1, 101)", x -> x.renew(1, 101));
        bad("giveUp(5)", x -> x.giveUp(5));
        bad("handOver(5, 1, 1)", x -> x.handOver(5, 1, 1));
        bad("handOver(1, 5, 1)", x -> x.handOver(1, 5, 1));
        bad("handOver(1, 1, 1)", x -> x.handOver(1, 1, 1));
        bad("handOver(1, 0, 101)", x -> x.handOver(1, 0, 101));
        bad("reason(5)", x -> x.reason(5));
        bad("holds(5)", x -> x.holds(5));
        bad("known(5, 0)", x -> x.known(5, 0));
        bad("known(0, 5)", x -> x.known(0, 5));
    }

    private static void addBadOfTheRest() {
        bad("write(5, 0, 0)", x -> x.write(5, 0, 0));
        bad("write(1, 8, 0)", x -> x.write(1, 8, 0));
        bad("write(1, 0, 1000)", x -> x.write(1, 0, 1000));
        bad("barrier(5)", x -> x.barrier(5));
        bad("read(5, 0)", x -> x.read(5, 0));
        bad("read(1, 8)", x -> x.read(1, 8));
        bad("readAt(5, 0, 0)", x -> x.readAt(5, 0, 0));
        bad("readAt(1, 8, 0)", x -> x.readAt(1, 8, 0));
        bad("readAt(1, 0, -1)", x -> x.readAt(1, 0, -1));
        bad("log(5, 0)", x -> x.log(5, 0));
        bad("log(0, 5)", x -> x.log(0, 5));
        bad("entry(5, 0, 0)", x -> x.entry(5, 0, 0));
        bad("entry(0, 3, 0)", x -> x.entry(0, 3, 0));
        bad("entry(0, 0, 4)", x -> x.entry(0, 0, 4));
        bad("agreement(5, 0)", x -> x.agreement(5, 0));
        bad("agreement(0, 5)", x -> x.agreement(0, 5));
        bad("history(8, 0)", x -> x.history(8, 0));
        bad("history(0, -1)", x -> x.history(0, -1));
        bad("acknowledgement(-1, 0)", x -> x.acknowledgement(-1, 0));
        bad("acknowledgement(0, 4)", x -> x.acknowledgement(0, 4));
        bad("send(5, 0, 0)", x -> x.send(5, 0, 0));
        bad("send(1, 4, 0)", x -> x.send(1, 4, 0));
        bad("send(1, 0, 1000)", x -> x.send(1, 0, 1000));
        bad("deliver(3)", x -> x.deliver(3));
        bad("cell(4, 0)", x -> x.cell(4, 0));
        bad("cell(0, 2)", x -> x.cell(0, 2));
        bad("safeFor(5)", x -> x.safeFor(5));
        bad("waitFor(5)", x -> x.waitFor(5));
        bad("staleKeys(5)", x -> x.staleKeys(5));
        bad("type(128)", x -> x.type(128));
        bad("result(-1)", x -> x.result(-1));
        bad("save(2)", x -> x.save(2));
        bad("restore(2)", x -> x.restore(2));
        bad("count(11)", x -> x.count(11));
    }

    private static LeaseCluster withGreaterTermOf3() {
        LeaseCluster x = busy();
        x.acquire(3, 1);
        return x;
    }

    private static void addStates() {
        state("acquire(4, 1), paused", x -> x.acquire(4, 1));
        state("acquire(1, 1), holding", x -> x.acquire(1, 1));
        state("renew(0, 1)", x -> x.renew(0, 1));
        state("giveUp(0)", x -> x.giveUp(0));
        state("handOver(0, 2, 1), not holding", x -> x.handOver(0, 2, 1));
        state("handOver(1, 4, 1), not reaching", x -> x.handOver(1, 4, 1));
        add(TermsEdgeTest::withGreaterTermOf3, STATE, "handOver(1, 3, 1), term", x -> x.handOver(1, 3, 1));
        state("write(0, 0, 0)", x -> x.write(0, 0, 0));
        state("barrier(0)", x -> x.barrier(0));
        state("read(0, 3)", x -> x.read(0, 3));
        add(EdgeTest::led, STATE, "read(0, 0), nothing committed", x -> x.read(0, 0));
        state("readAt(4, 3, 0), paused", x -> x.readAt(4, 3, 0));
        state("readAt(1, 3, 10), too late", x -> x.readAt(1, 3, 10));
        state("send(0, 0, 0)", x -> x.send(0, 0, 0));
        state("deliver(0), refused before", x -> x.deliver(0));
        state("deliver(2), accepted before", x -> x.deliver(2));
        state("restore(1)", x -> x.restore(1));
    }

    private static void addFulls() {
        add(() -> late(5), FULL, "pass(6)", x -> x.pass(6));
        add(EdgeTest::fullLog, FULL, "write(0, 0, 0)", x -> x.write(0, 0, 0));
        add(EdgeTest::fullLog, FULL, "barrier(0)", x -> x.barrier(0));
        add(EdgeTest::fullStore, FULL, "send(0, 0, 0)", x -> x.send(0, 0, 0));
        add(EdgeTest::fullText, FULL, "type(0)", x -> x.type(0));
    }

    /** Server 0 holds a lease with the term 1, but has the term 2 itself, as 4 has. */
    private static LeaseCluster ledBelowItsTerm() {
        LeaseCluster x = new LeaseCluster(0);
        links(x, 4, false);
        x.acquire(4, 1);
        x.acquire(4, 1);
        x.pass(1);
        links(x, 4, true);
        x.acquire(0, 20);
        return x;
    }

    private static void noMajority() {
        LeaseCluster x = led();
        due("none grants", x.acquire(1, 10), -10);
        due("its term has changed", x.known(1, 0), 2);
        due("one grants itself", only(0).acquire(0, 10), -11);
        due("two grant", only(0, 1).acquire(0, 10), -12);
        due("three are a majority", only(0, 1, 2).acquire(0, 10), 1);
        due("four are", only(0, 1, 2, 3).acquire(0, 10), 1);
        LeaseCluster y = ledBelowItsTerm();
        state(y, 1, 1, 2, 3, 4);
        due("none grants, not even the server itself", y.renew(0, 50), -10);
        y.setState(1, 0);
        due("one grants", y.renew(0, 50), -11);
        due("its promise has changed", y.known(1, 2), 51);
        y.setState(2, 0);
        due("two grant", y.renew(0, 50), -12);
        y.setState(3, 0);
        due("three grant", y.renew(0, 50), 51);
        LeaseCluster z = led();
        state(z, 1, 1, 2, 3, 4);
        due("one agrees", z.write(0, 0, 0), -11);
        due("its log has changed", z.log(0, 0), 1);
        z.setState(1, 0);
        due("two agree", z.barrier(0), -12);
        z.setState(2, 0);
        due("three agree", z.write(0, 0, 0), 2);
    }

    /** Only these servers are running. */
    private static LeaseCluster only(int... running) {
        LeaseCluster x = new LeaseCluster(0);
        state(x, 2, 0, 1, 2, 3, 4);
        state(x, 0, running);
        return x;
    }

    // ---- time and clocks

    private static void timeAndClocks() {
        test("Time and clocks. The true time is an integer, 0 at first, at most 100000.", () -> {
            due("at first", fresh().count(0), 0);
            LeaseCluster x = late(1);
            due("before the end", x.count(0), 99999);
            due("the last tick", x.pass(1), 100000);
            due("one more", x.pass(1), FULL);
            due("still", x.count(0), 100000);
        });
        test("The doubt d is fixed when the object is made.", () -> {
            LeaseCluster x = busy();
            x.restore(0);
            x.pass(1);
            due("the doubt", x.count(1), 2);
        });
        test("Each server (0 to 4) has an offset from -d to d, 0 at first.", () -> {
            for (int s = 0; s <= 4; s++) {
                LeaseCluster x = new LeaseCluster(7);
                due("below", x.setClock(s, -8), BAD);
                due("above", x.setClock(s, 8), BAD);
                due("at first", x.setClock(s, -7), 0);
                due("the least", x.setClock(s, 7), -7);
                due("the greatest", x.setClock(s, 0), 7);
            }
            due("server -1", fresh().setClock(-1, 0), BAD);
            due("server 5", fresh().setClock(5, 0), BAD);
        });
        test("Its reading is the true time plus its offset; its earliest time is its reading minus d, and its latest"
                + " time its reading plus d.", () -> {
            LeaseCluster x = new LeaseCluster(20);
            x.setClock(0, -20);
            x.setClock(1, 20);
            dueAll("the slowest", clocks(x, 0), -20, -40, 0);
            dueAll("the fastest", clocks(x, 1), 20, 0, 40);
            dueAll("the third", clocks(x, 2), 0, -20, 20);
            x.pass(1);
            dueAll("the slowest after a tick", clocks(x, 0), -19, -39, 1);
        });
        test("So the true time is always between its earliest and its latest time.", () -> {
            LeaseCluster x = new LeaseCluster(3);
            x.pass(9);
            x.setClock(0, -3);
            x.setClock(4, 3);
            due("the latest time of the slowest", x.clock(0, 2), 9);
            due("the earliest time of the fastest", x.clock(4, 1), 9);
            LeaseCluster y = new LeaseCluster(0);
            y.pass(9);
            dueAll("without doubt", clocks(y, 3), 9, 9, 9);
        });
        noEdge("Servers use only their readings and the doubt.");
    }

    private static long[] clocks(LeaseCluster x, int server) {
        return new long[] {x.clock(server, 0), x.clock(server, 1), x.clock(server, 2)};
    }

    // ---- servers

    private static void servers() {
        test("Servers. A server is running (at first), paused or crashed.", () -> {
            for (int s = 0; s < 5; s++) {
                LeaseCluster x = fresh();
                due("at first", x.setState(s, 1), 0);
                due("paused", x.setState(s, 2), 1);
                due("crashed", x.setState(s, 0), 2);
            }
        });
        test("Between each two servers there is a link, which is up (at first) or cut.", TermsEdgeTest::tenLinks);
        test("Server b is reached by server a if both are running, and they are the same or the link between them is"
                + " up.", TermsEdgeTest::reached);
        noEdge("Each server has");
        test("a term, 0 at first, which never decreases, except by restore();", TermsEdgeTest::terms);
        test("a promise: none (at first), or the holder (a server) to whom it has promised a lease, and the end of"
                + " this lease, a time;", () -> {
            for (int s = 0; s < 5; s++) {
                due("no holder at first", fresh().known(s, 1), NONE);
                due("no end at first", fresh().known(s, 2), NONE);
                due("the holder", led().known(s, 1), 0);
                due("the end", led().known(s, 2), 100);
            }
        });
        test("a log: at most 40 entries, numbered from 0, none at first; an entry has a term, a key and a value (or"
                + " it is a barrier, which has neither), and a timestamp;", TermsEdgeTest::logLimits);
        test("its committed length, 0 at first: it knows that this many first entries of its log are committed;", () -> {
            LeaseCluster x = led();
            due("at first", x.log(0, 1), 0);
            x.write(0, 0, 0);
            due("of the leader", x.log(0, 1), 1);
            due("of another, which does not know yet", x.log(1, 1), 0);
        });
        test("a lease, or none (at first): a term and an end;", () -> {
            due("no term at first", fresh().known(0, 3), NONE);
            due("no end at first", fresh().known(0, 4), NONE);
            due("a term", led().known(0, 3), 1);
            due("an end", led().known(0, 4), 100);
        });
        test("acknowledgements that it has to give (none at first), which are described below.", () -> {
            LeaseCluster x = led();
            due("at first", x.log(0, 4), 0);
            x.barrier(0);
            due("then", x.log(0, 4), 1);
        });
        test("A paused server keeps all this.", TermsEdgeTest::pausedKeepsAll);
        test("A server that crashes loses its lease and the acknowledgements that it has to give; it keeps the rest.",
                TermsEdgeTest::crashedKeepsTheRest);
    }

    private static void tenLinks() {
        LeaseCluster x = fresh();
        due("at first", x.count(10), 10);
        int up = 10;
        for (int a = 0; a < 5; a++) {
            for (int b = a + 1; b < 5; b++) {
                due("up at first", x.setLink(a, b, false), 1);
                up--;
                due("links", x.count(10), up);
                due("cut, from the other side", x.setLink(b, a, false), 0);
            }
        }
        due("none is left", x.count(10), 0);
        for (int a = 0; a < 5; a++) {
            for (int b = 0; b < a; b++) {
                due("cut", x.setLink(a, b, true), 0);
                up++;
                due("links", x.count(10), up);
            }
        }
        due("all again", x.count(10), 10);
    }

    private static void reached() {
        for (int a = 0; a < 5; a++) {
            for (int b = 0; b < 5; b++) {
                if (a != b) {
                    LeaseCluster cut = fresh();
                    cut.setLink(b, a, false);
                    dueReachedBut(cut, a, b);
                    LeaseCluster paused = fresh();
                    paused.setState(b, 1);
                    dueReachedBut(paused, a, b);
                    LeaseCluster crashed = fresh();
                    crashed.setState(b, 2);
                    dueReachedBut(crashed, a, b);
                }
            }
            LeaseCluster alone = fresh();
            links(alone, a, false);
            alone.acquire(a, 1);
            due("itself, without any link", alone.reason(a), 0);
            LeaseCluster notRunning = led();
            notRunning.setState(0, 1);
            due("a paused server reaches nobody", notRunning.giveUp(0), STATE);
        }
    }

    /** Server a reaches all but b, also where others could pass it on. */
    private static void dueReachedBut(LeaseCluster x, int a, int b) {
        x.acquire(a, 1);
        for (int v = 0; v < 5; v++) {
            due(v + " is reached by " + a, x.reason(v), v == b ? 1 : 0);
        }
    }

    private static void terms() {
        LeaseCluster x = new LeaseCluster(0);
        for (int s = 0; s < 5; s++) {
            due("at first", x.known(s, 0), 0);
        }
        x.save(0);
        links(x, 4, false);
        x.acquire(4, 1);
        x.acquire(4, 1);
        x.pass(1);
        links(x, 4, true);
        due("a lower term", x.acquire(0, 50), 1);
        due("asking it does not lower that of 4", x.known(4, 0), 2);
        x.renew(0, 50);
        due("nor does a renewal", x.known(4, 0), 2);
        x.write(0, 0, 0);
        due("nor a write", x.known(4, 0), 2);
        due("nor that of the leader itself", x.known(0, 0), 2);
        state(x, 2, 4);
        due("nor a crash", x.known(4, 0), 2);
        x.restore(0);
        due("but restore() does", x.known(4, 0), 0);
    }

    private static void logLimits() {
        LeaseCluster x = led();
        due("none at first", x.log(0, 0), 0);
        for (int i = 0; i < 40; i++) {
            due("its number", i % 2 == 0 ? x.write(0, 7, i) : x.barrier(0), i);
        }
        due("a 41st value", x.write(0, 7, 40), FULL);
        due("a 41st barrier", x.barrier(0), FULL);
        due("entries", x.log(0, 0), 40);
        due("entries of another", x.log(4, 0), 40);
        dueAll("the first", entry(x, 0), 1, 7, 0, 0);
        dueAll("the last", entry(x, 39), 1, NONE, NONE, 39);
        due("there is no 40", x.entry(0, 40, 0), BAD);
    }

    private static long[] entry(LeaseCluster x, int index) {
        return new long[] {x.entry(0, index, 0), x.entry(0, index, 1), x.entry(0, index, 2), x.entry(0, index, 3)};
    }

    private static void pausedKeepsAll() {
        silent(EdgeTest::busy, "a pause of 1", x -> x.setState(1, 1) + x.setState(1, 0));
        LeaseCluster x = busy();
        x.setState(1, 1);
        dueAll("known when paused", known(x, 1), 2, 1, 65, 2, 65);
        dueAll("log when paused", log(x, 1), 3, 3, 2, 9, 1);
    }

    private static void crashedKeepsTheRest() {
        LeaseCluster x = busy();
        x.setState(1, 2);
        dueAll("known when crashed", known(x, 1), 2, 1, 65, NONE, NONE);
        dueAll("log when crashed", log(x, 1), 3, 3, 2, 9, 0);
        due("offset", x.clock(1, 0), 5);
        x.setState(1, 0);
        dueAll("known when running again", known(x, 1), 2, 1, 65, NONE, NONE);
        dueAll("log when running again", log(x, 1), 3, 3, 2, 9, 0);
        x.pass(50);
        due("0 gives what it has to give, 1 nothing", x.count(4), 2);
        silent(TermsEdgeTest::withCrashed, "a crash of a crashed server", y -> y.setState(1, 2));
        silent(TermsEdgeTest::withCrashed, "its way to paused and back", y -> y.setState(1, 1) + y.setState(1, 2));
    }

    private static LeaseCluster withCrashed() {
        LeaseCluster x = busy();
        x.setState(1, 2);
        return x;
    }

    // ---- leases

    private static void leases() {
        test("The log of a is at least as recent as that of b if the term of a's last entry is greater than that of"
                + " b's last entry, or both are equal and a's log is not shorter; the term of the last entry of an"
                + " empty log counts as 0.", TermsEdgeTest::recency);
        test("A server holds its lease if it is running, has a lease, and its latest time is less than the end of"
                + " this lease.", TermsEdgeTest::holding);
        test("(A lease that is not held any more stays until it is replaced, given up or lost.)", () -> {
            due("given up", ended(x -> x.renew(0, 5) + x.giveUp(0)).known(0, 3), 1);
            LeaseCluster late = ended(x -> 0);
            due("not held any more", late.holds(0), 0);
            due("its term stays", late.known(0, 3), 1);
            due("its end stays", late.known(0, 4), 10);
            due("it stays in a pause", ended(x -> x.setState(0, 1)).known(0, 4), 10);
            due("it is replaced", ended(x -> x.acquire(0, 20)).known(0, 4), 30);
            due("it is lost by a crash", ended(x -> x.setState(0, 2)).known(0, 4), NONE);
            due("it is lost without a majority", ended(x -> {
                state(x, 2, 2, 3, 4);
                return x.acquire(0, 20);
            }).known(0, 4), NONE);
            due("others' leases leave it", ended(x -> x.acquire(1, 20)).known(0, 4), 10);
            LeaseCluster given = led();
            given.giveUp(0);
            due("it is given up", given.known(0, 3), NONE);
        });
    }

    /** Server 0 had a lease that ended at 10, which is now; then a call was made. */
    private static LeaseCluster ended(ToLongFunction<LeaseCluster> then) {
        LeaseCluster x = new LeaseCluster(0);
        x.acquire(0, 10);
        x.pass(10);
        then.applyAsLong(x);
        return x;
    }

    private static void recency() {
        due("both are empty", reasonAfter(fresh(), 0, 4), 0);
        LeaseCluster x = new LeaseCluster(0);
        x.acquire(0, 5);
        x.write(0, 0, 0);
        x.setState(4, 2);
        x.write(0, 0, 0);
        x.setState(4, 0);
        x.setState(3, 2);
        x.pass(5);
        // Logs of the term 1: 0, 1, 2 and 3 have two entries, 4 has one.
        due("longer by one", reasonAfter(x, 0, 4), 0);
        due("as long", x.reason(1), 0);
        x.pass(1);
        due("shorter by one", reasonAfter(x, 4, 0), 4);
        LeaseCluster y = new LeaseCluster(0);
        y.setState(4, 2);
        y.acquire(0, 5);
        y.write(0, 0, 0);
        y.setState(4, 0);
        y.pass(5);
        due("one entry is more than none", reasonAfter(y, 0, 4), 0);
        y.giveUp(0);
        due("none is less than one", reasonAfter(y, 4, 0), 4);
        // 0 writes three entries of the term 1 alone, 1 writes one of the term 2.
        LeaseCluster z = new LeaseCluster(0);
        z.acquire(0, 5);
        links(z, 0, false);
        z.write(0, 0, 0);
        z.write(0, 0, 0);
        z.write(0, 0, 0);
        z.pass(5);
        z.acquire(1, 5);
        z.write(1, 0, 0);
        z.pass(5);
        links(z, 0, true);
        due("a greater term, but shorter", reasonAfter(z, 1, 0), 0);
        z.giveUp(1);
        due("a lower term, but longer", reasonAfter(z, 0, 1), 4);
    }

    /** The reason of v when s has asked. */
    private static int reasonAfter(LeaseCluster x, int s, int v) {
        x.acquire(s, 1);
        return x.reason(v);
    }

    private static void holding() {
        LeaseCluster x = new LeaseCluster(3);
        due("without a lease", x.holds(0), 0);
        x.acquire(0, 10);
        x.pass(6);
        due("the latest time is 9, the end is 10", x.holds(0), 1);
        x.setState(0, 1);
        due("paused", x.holds(0), 0);
        x.setState(0, 0);
        x.pass(1);
        due("the latest time is 10", x.holds(0), 0);
        x.setClock(0, -1);
        due("the latest time is 9 again", x.holds(0), 1);
        x.setState(0, 2);
        due("crashed", x.holds(0), 0);
        LeaseCluster shortest = new LeaseCluster(0);
        shortest.acquire(0, 1);
        due("a lease of one tick", shortest.holds(0), 1);
        shortest.pass(1);
        due("after this tick", shortest.holds(0), 0);
        LeaseCluster never = new LeaseCluster(1);
        never.acquire(0, 1);
        due("a lease as short as the doubt", never.holds(0), 0);
        due("which is there all the same", never.known(0, 4), 1);
        LeaseCluster doubtful = new LeaseCluster(20);
        doubtful.acquire(0, 21);
        due("a tick longer than the doubt", doubtful.holds(0), 1);
    }

    // ---- acquiring

    private static void acquiring() {
        test("To acquire a lease for some duration, server s does this: its term increases by 1; let t be this new"
                + " term, and let e be its reading plus the duration.", () -> {
            due("the end of the shortest", leaseEnd(0, 1), 1);
            due("the end of the longest", leaseEnd(0, 100), 100);
            due("the end by a slow clock, below 0", leaseEnd(-20, 1), -19);
            due("the end by a fast clock", leaseEnd(20, 100), 120);
            LeaseCluster x = led();
            x.acquire(4, 1);
            due("the term of one that nobody grants", x.known(4, 0), 2);
        });
        test("Then every server v from 0 to 4 is asked, in this order.", () -> {
            dueAll("reasons", reasons(led()), 0, 0, 0, 0, 0);
            LeaseCluster x = busy();
            x.acquire(0, 1);
            dueAll("reasons", reasons(x), 3, 3, 3, 3, 1);
        });
        test("The reason for its answer is the first of these that applies:", TermsEdgeTest::firstReason);
        test("1 (unreached) if v is not reached by s;", () -> {
            LeaseCluster x = fresh();
            state(x, 1, 1);
            state(x, 2, 2);
            x.setLink(0, 3, false);
            x.acquire(0, 1);
            dueAll("paused, crashed, cut", reasons(x), 0, 1, 1, 1, 0);
        });
        test("2 (term) if v is not s and its term is at least t;", TermsEdgeTest::termReason);
        test("3 (promise) if v has a promise, its holder is not s, and v's earliest time is less than the end of this"
                + " promise;", TermsEdgeTest::promiseReason);
        test("4 (log) if the log of s is not at least as recent as that of v;", () -> {
            LeaseCluster x = new LeaseCluster(0);
            x.acquire(0, 5);
            x.setState(4, 1);
            x.write(0, 0, 0);
            x.setState(4, 0);
            x.pass(5);
            x.acquire(4, 1);
            dueAll("one entry and none", reasons(x), 4, 4, 4, 4, 0);
            x.pass(1);
            x.acquire(1, 1);
            dueAll("the term of 4 is as great", reasons(x), 0, 0, 0, 0, 2);
        });
        test("0 (granted) otherwise.", () -> {
            LeaseCluster x = new LeaseCluster(0);
            x.acquire(0, 5);
            x.write(0, 0, 0);
            x.pass(5);
            x.acquire(1, 1);
            dueAll("terms, promises and logs just allow it", reasons(x), 0, 0, 0, 0, 0);
        });
        test("With reason 2, the term of s becomes that of v if that is greater.", TermsEdgeTest::termOfRefuser);
        test("With reason 0, the term of v becomes t, unless it is greater (then it stays), and its promise gets the"
                + " holder s and the end e.", TermsEdgeTest::granted);
        test("If a majority grants, s has the lease with the term t and the end e, in place of an earlier one.", () -> {
            LeaseCluster x = ended(y -> 0);
            state(x, 2, 3, 4);
            due("three grant", x.acquire(0, 7), 2);
            due("the term", x.known(0, 3), 2);
            due("the end", x.known(0, 4), 17);
        });
        test("Otherwise s has no lease.", () -> {
            LeaseCluster x = ended(y -> 0);
            state(x, 2, 2, 3, 4);
            due("two grant", x.acquire(0, 7), -12);
            due("no term", x.known(0, 3), NONE);
            due("no end", x.known(0, 4), NONE);
        });
        test("In both cases the promises stay.", () -> {
            LeaseCluster x = only(0, 1);
            due("two grant", x.acquire(0, 7), -12);
            due("of itself", x.known(0, 2), 7);
            due("of the other", x.known(1, 1), 0);
            due("and bind it", reasonAfter(x, 1, 1), 3);
            due("with a majority", led().known(4, 2), 100);
        });
    }

    private static int leaseEnd(int offset, int duration) {
        LeaseCluster x = new LeaseCluster(20);
        x.setClock(3, offset);
        due("the term", x.acquire(3, duration), 1);
        return x.known(3, 4);
    }

    /** For server 0 all the reasons apply at first; one after the other is taken away. */
    private static void firstReason() {
        LeaseCluster x = new LeaseCluster(0);
        links(x, 4, false);
        x.acquire(0, 50);
        x.giveUp(0);
        due("the term of 0", x.acquire(0, 50), 2);
        x.write(0, 0, 0);
        due("unreached, term, promise, log", reasonAfter(x, 4, 0), 1);
        links(x, 4, true);
        x.pass(1);
        due("term, promise, log", reasonAfter(x, 4, 0), 2);
        due("promise, log", reasonAfter(x, 4, 0), 3);
        x.pass(49);
        due("log", reasonAfter(x, 4, 0), 4);
        due("the term of 4", x.known(4, 0), 4);
        x.acquire(0, 1);
        x.giveUp(0);
        due("the term of 0 is beyond that of 4", x.acquire(0, 1), 5);
        x.write(0, 0, 0);
        x.pass(1);
        due("none", reasonAfter(x, 4, 0), 0);
    }

    /** Server 4 has got this term by asking alone; its promise to itself has ended. */
    private static LeaseCluster withTermOf4(int term) {
        LeaseCluster x = new LeaseCluster(0);
        links(x, 4, false);
        for (int i = 0; i < term; i++) {
            x.acquire(4, 1);
        }
        x.pass(1);
        links(x, 4, true);
        return x;
    }

    private static void termReason() {
        due("one less than t", reasonAfter(withTermOf4(0), 0, 4), 0);
        due("t", reasonAfter(withTermOf4(1), 0, 4), 2);
        due("one more than t", reasonAfter(withTermOf4(2), 0, 4), 2);
        LeaseCluster x = withTermOf4(2);
        x.acquire(0, 1);
        due("s itself has the term 2 when it is asked last", x.known(0, 0), 2);
        // 0 is asked first, raises the term of 4 above t, and then 4 is asked itself.
        LeaseCluster y = new LeaseCluster(0);
        links(y, 0, false);
        y.acquire(0, 1);
        y.acquire(0, 1);
        y.pass(1);
        links(y, 0, true);
        due("the term", y.acquire(4, 1), 1);
        dueAll("4 is s", reasons(y), 2, 0, 0, 0, 0);
    }

    private static void promiseReason() {
        due("no promise", reasonAfter(fresh(), 1, 2), 0);
        LeaseCluster x = new LeaseCluster(5);
        x.acquire(0, 10);
        x.setClock(1, 5);
        x.setClock(2, 4);
        x.setClock(3, -5);
        x.pass(9);
        x.acquire(0, 10);
        dueAll("the holder itself, before the end", reasons(x), 0, 0, 0, 0, 0);
        // The promises end at 19 now. Earliest times: 0 at T - 5, 1 at T, 2 at T - 1, 3 at T - 10, 4 at T - 5.
        x.pass(9);
        x.acquire(1, 1);
        dueAll("at 18", reasons(x), 3, 3, 3, 3, 3);
        x.pass(1);
        x.acquire(2, 1);
        dueAll("at 19, an equal time is not less, but the term of 1 is as great", reasons(x), 3, 2, 3, 3, 3);
        x.acquire(2, 1);
        dueAll("at 19", reasons(x), 3, 0, 3, 3, 3);
        x.pass(1);
        x.acquire(2, 1);
        dueAll("at 20", reasons(x), 3, 0, 0, 3, 3);
    }

    private static void termOfRefuser() {
        LeaseCluster equal = withTermOf4(1);
        equal.acquire(0, 1);
        due("as great", equal.known(0, 0), 1);
        LeaseCluster greater = withTermOf4(2);
        greater.acquire(0, 1);
        due("greater by one", greater.known(0, 0), 2);
        due("the lease has the term that was asked for", greater.known(0, 3), 1);
        LeaseCluster two = new LeaseCluster(0);
        links(two, 3, false);
        links(two, 4, false);
        for (int i = 0; i < 5; i++) {
            two.acquire(3, 1);
        }
        two.acquire(4, 1);
        two.acquire(4, 1);
        two.pass(1);
        links(two, 3, true);
        links(two, 4, true);
        two.acquire(0, 1);
        dueAll("two refuse", reasons(two), 0, 0, 0, 2, 2);
        due("the greatest stays", two.known(0, 0), 5);
    }

    private static void granted() {
        LeaseCluster x = withTermOf4(0);
        x.acquire(2, 30);
        for (int v = 0; v < 5; v++) {
            due("the term of " + v, x.known(v, 0), 1);
            due("the holder of " + v, x.known(v, 1), 2);
            due("the end of " + v, x.known(v, 2), 31);
        }
        // The term of 4 is greater than t when it grants itself, after 0 has refused.
        LeaseCluster y = new LeaseCluster(0);
        links(y, 0, false);
        y.acquire(0, 1);
        y.acquire(0, 1);
        y.pass(1);
        links(y, 0, true);
        y.acquire(4, 9);
        due("4 has granted", y.reason(4), 0);
        due("its greater term stays", y.known(4, 0), 2);
        due("its promise", y.known(4, 2), 10);
        // A promise to the same holder gets a lower end, too.
        LeaseCluster z = only(0, 1);
        z.acquire(0, 50);
        z.acquire(0, 3);
        due("a lower end", z.known(1, 2), 3);
    }

    // ---- renewing

    private static void renewing() {
        test("To renew its lease, server s asks every server v in the same way, with the term t of its lease and e ="
                + " its reading plus the duration; but reason 2 applies if v's term is greater than t (also for s"
                + " itself), and reason 4 is not looked at if v's promise has the holder s.", TermsEdgeTest::renewReasons);
        test("With reason 0, v's term becomes t, and its promise gets the holder s and the end e, or its end stays if"
                + " the holder was s and the end is greater.", TermsEdgeTest::renewGranted);
        test("Terms of s do not change.", () -> {
            LeaseCluster x = led();
            x.renew(0, 1);
            due("its term", x.known(0, 0), 1);
            x.acquire(4, 1);
            x.acquire(4, 1);
            x.renew(0, 1);
            due("4 refuses with a greater term", x.reason(4), 2);
            due("its term", x.known(0, 0), 1);
            due("the term of its lease", x.known(0, 3), 1);
            LeaseCluster y = ledBelowItsTerm();
            y.renew(0, 50);
            due("a term that is greater than that of its lease", y.known(0, 0), 2);
        });
        test("If a majority grants, the end of the lease becomes e, unless it is greater already.", () -> {
            LeaseCluster x = new LeaseCluster(0);
            x.acquire(0, 30);
            state(x, 2, 3, 4);
            due("e is less by one", x.renew(0, 29), 30);
            due("the end", x.known(0, 4), 30);
            due("e is the end", x.renew(0, 30), 30);
            due("e is greater by one, three grant", x.renew(0, 31), 31);
            due("the end", x.known(0, 4), 31);
            state(x, 2, 2);
            due("two grant", x.renew(0, 32), -12);
            due("the end stays", x.known(0, 4), 31);
        });
    }

    private static void renewReasons() {
        LeaseCluster x = led();
        x.renew(0, 1);
        dueAll("equal terms", reasons(x), 0, 0, 0, 0, 0);
        x.acquire(1, 1);
        x.renew(0, 1);
        dueAll("the term of 1 is greater by one", reasons(x), 0, 2, 0, 0, 0);
        x.setLink(0, 1, false);
        x.renew(0, 1);
        dueAll("1 is unreached, too", reasons(x), 0, 1, 0, 0, 0);
        LeaseCluster y = ledBelowItsTerm();
        y.renew(0, 30);
        dueAll("the term of s itself is greater by one", reasons(y), 2, 0, 0, 0, 2);
        due("the promise of s stays", y.known(0, 2), 21);
        due("e is counted from the reading", y.known(1, 2), 31);
        renewAgainstPromise();
        renewAgainstLogs();
    }

    private static void renewAgainstPromise() {
        LeaseCluster x = new LeaseCluster(1);
        links(x, 4, false);
        x.acquire(4, 10);
        x.acquire(0, 50);
        links(x, 4, true);
        x.pass(10);
        x.renew(0, 50);
        due("the earliest time of 4 is 9, its promise ends at 10", x.reason(4), 3);
        x.pass(1);
        x.renew(0, 50);
        due("it is 10", x.reason(4), 0);
    }

    private static void renewAgainstLogs() {
        // 1 had the promise of 2. Then 0 leads, and writes an entry that only 2 gets; then 1 leads again.
        LeaseCluster x = new LeaseCluster(0);
        x.acquire(1, 10);
        x.pass(10);
        x.setLink(0, 2, false);
        due("0 leads", x.acquire(0, 5), 2);
        links(x, 0, false);
        x.setLink(0, 2, true);
        due("2 gets an entry", x.write(0, 1, 1), -12);
        x.pass(5);
        links(x, 0, true);
        due("1 leads", x.acquire(1, 50), 3);
        dueAll("acquire() looks at the logs", reasons(x), 4, 0, 4, 0, 0);
        x.renew(1, 60);
        dueAll("renew() not at that of 2", reasons(x), 4, 0, 0, 0, 0);
    }

    private static void renewGranted() {
        LeaseCluster x = new LeaseCluster(0);
        x.setState(4, 2);
        x.acquire(0, 30);
        x.setState(4, 0);
        x.renew(0, 29);
        due("a lower term becomes t", x.known(4, 0), 1);
        due("without a promise: the holder", x.known(4, 1), 0);
        due("and the end e", x.known(4, 2), 29);
        due("an end that is greater by one stays", x.known(1, 2), 30);
        x.renew(0, 30);
        due("an equal end", x.known(1, 2), 30);
        due("a lower end", x.known(4, 2), 30);
        x.renew(0, 31);
        due("an end that is lower by one", x.known(1, 2), 31);
        // 4 has promised itself until 30. By its clock this is over, though the slow clock of 0 counts only to 15.
        LeaseCluster y = new LeaseCluster(20);
        links(y, 4, false);
        y.acquire(4, 30);
        y.acquire(0, 100);
        links(y, 4, true);
        y.pass(30);
        y.setClock(4, 20);
        y.setClock(0, -20);
        due("the lease stays", y.renew(0, 5), 100);
        due("4 grants", y.reason(4), 0);
        due("its holder", y.known(4, 1), 0);
        due("a greater end of another holder does not stay", y.known(4, 2), 15);
        due("one of the same holder does", y.known(1, 2), 100);
    }

    private static void givingUp() {
        test("To give up its lease, server s loses it, and each server that is reached by s and whose promise has the"
                + " holder s has no promise any more.", () -> {
            LeaseCluster all = led();
            due("all five", all.giveUp(0), 5);
            dueAll("of itself", known(all, 0), 1, NONE, NONE, NONE, NONE);
            LeaseCluster alone = led();
            links(alone, 0, false);
            due("only its own", alone.giveUp(0), 1);
            dueAll("the unreached keep theirs", known(alone, 1), 1, 0, 100, NONE, NONE);
            LeaseCluster none = promisedToOther();
            links(none, 0, false);
            due("none at all", none.giveUp(0), 0);
            dueAll("its own promise has another holder", known(none, 0), 2, 1, 50, NONE, NONE);
            LeaseCluster three = promisedToOther();
            due("not those to others", three.giveUp(0), 3);
            due("that of 1 stays", three.known(1, 1), 1);
        });
    }

    /** Server 0 leads by the promises of 2, 3 and 4; 0 and 1 have promised 1 a lease until 50. */
    private static LeaseCluster promisedToOther() {
        LeaseCluster x = new LeaseCluster(0);
        state(x, 1, 2, 3, 4);
        x.acquire(1, 50);
        state(x, 0, 2, 3, 4);
        due("0 leads without its own promise", x.acquire(0, 20), 2);
        return x;
    }

    // ---- writing

    private static void writing() {
        test("Writing. Server s appends an entry with the term t of its lease to its log; its timestamp is the latest"
                + " time of s, but at least the timestamp of the entry before it plus 1.", TermsEdgeTest::timestamps);
        test("Then each other server v, in ascending order, is sent the log, if it is reached by s and its term is"
                + " not greater than t: v's log becomes equal to that of s; v's term becomes t; and v's committed"
                + " length becomes that of s as it was before this write, unless it is greater already.",
                TermsEdgeTest::sendingTheLog);
        test("v agrees then. s agrees, too.", () -> {
            LeaseCluster x = led();
            state(x, 1, 1, 2, 3, 4);
            due("s alone", x.write(0, 0, 0), -11);
            state(x, 0, 4);
            due("s and v", x.write(0, 0, 0), -12);
        });
        test("If a majority agrees, the whole log of s is committed: the committed length of s becomes its length,"
                + " and s has to give an acknowledgement for the new entry.", () -> {
            LeaseCluster x = led();
            state(x, 1, 2, 3, 4);
            due("two agree", x.write(0, 0, 0), -12);
            dueAll("not committed", log(x, 0), 1, 0, 1, NONE, 0);
            state(x, 0, 2);
            due("three agree", x.write(0, 0, 0), 1);
            dueAll("both are committed, one is to be acknowledged", log(x, 0), 2, 2, 1, 1, 1);
            x.pass(5);
            due("the new one", x.acknowledgement(0, 1), 1);
        });
        test("Otherwise the entry stays in the logs to which it came, and may be committed later or replaced.", () -> {
            LeaseCluster x = led();
            state(x, 1, 2, 3, 4);
            x.write(0, 5, 6);
            due("in its own", x.log(0, 0), 1);
            due("in that of 1", x.log(1, 0), 1);
            due("not in that of 2", x.log(2, 0), 0);
            LeaseCluster later = led();
            state(later, 1, 2, 3, 4);
            later.write(0, 5, 6);
            later.pass(100);
            state(later, 0, 2, 3, 4);
            due("1 leads", later.acquire(1, 10), 2);
            later.barrier(1);
            due("committed later", later.history(5, 0), 6);
            state(x, 0, 2, 3, 4);
            state(x, 1, 0, 1);
            x.pass(100);
            due("2 leads", x.acquire(2, 10), 2);
            state(x, 0, 0, 1);
            x.barrier(2);
            due("replaced", x.entry(0, 0, 1), NONE);
            due("and never committed", x.history(5, 0), NONE);
        });
    }

    private static void timestamps() {
        LeaseCluster x = new LeaseCluster(3);
        x.acquire(0, 100);
        x.write(0, 0, 0);
        due("the first", x.entry(0, 0, 3), 3);
        x.write(0, 0, 0);
        due("the latest time is that of the entry before", x.entry(0, 1, 3), 4);
        x.write(0, 0, 0);
        due("it is less", x.entry(0, 2, 3), 5);
        x.pass(3);
        x.write(0, 0, 0);
        due("it is one more", x.entry(0, 3, 3), 6);
        x.pass(2);
        x.write(0, 0, 0);
        due("it is two more", x.entry(0, 4, 3), 8);
        x.setClock(0, -3);
        x.write(0, 0, 0);
        due("the clock goes back", x.entry(0, 5, 3), 9);
        due("the term", x.entry(0, 5, 0), 1);
        LeaseCluster zero = new LeaseCluster(0);
        zero.acquire(0, 100);
        zero.write(0, 0, 0);
        due("0 is a timestamp", zero.entry(0, 0, 3), 0);
        LeaseCluster below = ledBelowItsTerm();
        below.write(0, 0, 0);
        due("the term of the lease, not of the server", below.entry(0, 0, 0), 1);
    }

    private static void sendingTheLog() {
        LeaseCluster x = new LeaseCluster(0);
        x.setState(4, 2);
        x.acquire(0, 50);
        x.acquire(1, 1);
        x.setState(4, 0);
        x.setLink(0, 2, false);
        due("0, 3 and 4 agree", x.write(0, 1, 1), 0);
        due("1 has a term that is greater by one", x.log(1, 0), 0);
        due("2 is unreached", x.log(2, 0), 0);
        due("3 has an equal term", x.log(3, 0), 1);
        due("4 has a lower one", x.log(4, 0), 1);
        due("it becomes t", x.known(4, 0), 1);
        due("the greater one stays", x.known(1, 0), 2);
        due("the committed length as it was before", x.log(3, 1), 0);
        x.write(0, 1, 2);
        due("and after one more", x.log(3, 1), 1);
        due("all is equal", x.agreement(0, 3), 2);
        // 0 knows of one committed entry, the new leader 1 of none.
        LeaseCluster y = new LeaseCluster(0);
        y.acquire(0, 10);
        y.write(0, 1, 1);
        y.pass(10);
        y.acquire(1, 10);
        state(y, 2, 2, 3, 4);
        due("only 0 agrees", y.write(1, 1, 2), -12);
        due("a greater length stays", y.log(0, 1), 1);
        due("that of 1", y.log(1, 1), 0);
        // A longer log becomes equal, too.
        LeaseCluster z = new LeaseCluster(0);
        z.acquire(0, 10);
        links(z, 0, false);
        z.write(0, 1, 1);
        z.write(0, 1, 2);
        z.pass(10);
        z.acquire(1, 10);
        links(z, 0, true);
        z.write(1, 2, 3);
        due("it is shorter then", z.log(0, 0), 1);
        due("it is equal", z.agreement(0, 1), 1);
    }

    private static void acknowledging() {
        test("Acknowledgements. When a tick of time has passed, each running server, from 0 to 4, gives those of its"
                + " acknowledgements whose timestamp is less than its earliest time, in ascending order of"
                + " timestamps.", TermsEdgeTest::acknowledgements);
        test("Each of them is recorded.", () -> {
            LeaseCluster x = fullLog();
            x.pass(200);
            due("all 40", x.count(4), 40);
            due("are kept", x.count(3), 40);
            due("the last", x.acknowledgement(39, 1), 39);
            due("and no more", x.acknowledgement(40, 1), NONE);
        });
    }

    private static void acknowledgements() {
        LeaseCluster x = new LeaseCluster(1);
        x.acquire(2, 100);
        x.write(2, 0, 0);
        x.write(2, 0, 0);
        x.pass(2);
        due("the earliest time is 1, the timestamp 1", x.count(4), 0);
        x.pass(1);
        due("it is 2", x.count(4), 1);
        due("the other one has the timestamp 2", x.log(2, 4), 1);
        due("when it was given", x.acknowledgement(0, 3), 3);
        x.setState(2, 1);
        x.pass(5);
        due("a paused server gives none", x.count(4), 1);
        x.setState(2, 0);
        due("nor when it runs again, before a tick has passed", x.count(4), 1);
        x.pass(1);
        due("but then", x.acknowledgement(1, 3), 9);
        // 4 has two to give, then 1 and then 0 have one each; all of them run again at the same time.
        LeaseCluster y = new LeaseCluster(0);
        y.acquire(4, 50);
        y.write(4, 0, 0);
        y.write(4, 0, 0);
        y.handOver(4, 1, 50);
        y.write(1, 0, 0);
        y.handOver(1, 0, 50);
        y.write(0, 0, 0);
        state(y, 1, 0, 1, 4);
        y.pass(9);
        state(y, 0, 0, 1, 4);
        y.pass(1);
        int[][] due = {{0, 3}, {1, 2}, {4, 0}, {4, 1}};
        for (int i = 0; i < due.length; i++) {
            due("the server", y.acknowledgement(i, 0), due[i][0]);
            due("the entry", y.acknowledgement(i, 1), due[i][1]);
            due("the time", y.acknowledgement(i, 3), 10);
        }
    }

    private static void history() {
        test("Committed history. All that any server has ever counted as committed is the committed history: the"
                + " longest sequence of entries that was the committed part of a log of a server.", () -> {
            due("empty at first", fresh().count(2), 0);
            due("full", fullLog().count(2), 40);
            LeaseCluster x = new LeaseCluster(0);
            x.acquire(0, 10);
            x.write(0, 1, 1);
            x.write(0, 1, 2);
            x.setState(0, 2);
            x.pass(10);
            due("1 leads", x.acquire(1, 10), 2);
            due("it knows of one", x.log(1, 1), 1);
            due("but two were committed", x.count(2), 2);
            state(x, 2, 2, 3);
            due("not committed", x.write(1, 1, 3), -12);
            due("still two", x.count(2), 2);
            state(x, 0, 2);
            due("committed", x.write(1, 1, 4), 3);
            due("now four", x.count(2), 4);
            due("the third", x.history(1, 2), 3);
        });
        noEdge("(By the rules above, all committed parts of logs are beginnings of it.)");
    }

    private static void store() {
        test("The store. There are four cells, 0 to 3, outside of the servers. Each has a value and a token, both 0 at"
                + " first.", () -> {
            for (int c = 0; c <= 3; c++) {
                due("the value at first", fresh().cell(c, 0), 0);
                due("the token at first", fresh().cell(c, 1), 0);
            }
            due("there is no -1", fresh().cell(-1, 0), BAD);
            due("there is no 4", fresh().cell(4, 0), BAD);
            LeaseCluster x = led();
            x.send(0, 3, 9);
            state(x, 2, 0, 1, 2, 3, 4);
            due("the store works without servers", x.deliver(0), 1);
        });
        test("A server that holds its lease can send a message with a value for a cell; its token is the term of the"
                + " lease.", () -> {
            LeaseCluster x = ledBelowItsTerm();
            x.pass(19);
            due("in the last tick of its lease", x.send(0, 2, 9), 0);
            x.pass(1);
            due("after it", x.send(0, 2, 9), STATE);
            x.deliver(0);
            due("the token, not the term of the server", x.cell(2, 1), 1);
        });
        test("There are at most 20 messages.", () -> {
            due("20", fullStore().count(5), 20);
            due("one more", fullStore().send(0, 0, 0), FULL);
            LeaseCluster x = fullStore();
            for (int i = 0; i < 20; i++) {
                x.deliver(i);
            }
            due("also when all are delivered", x.send(0, 0, 0), FULL);
        });
        test("A message is delivered when told, perhaps much later, and only once.", () -> {
            LeaseCluster x = fullStore();
            due("not before", x.cell(3, 0), 0);
            for (int i = 0; i < 5; i++) {
                x.pass(200);
            }
            due("the last", x.deliver(19), 1);
            due("its value", x.cell(3, 0), 119);
            due("again", x.deliver(19), STATE);
            due("the first", x.deliver(0), 1);
            due("again", x.deliver(0), STATE);
        });
        test("It is accepted if its token is not less than that of the cell, which gets the value and the token then;"
                + " otherwise it is refused.", TermsEdgeTest::tokens);
    }

    private static void tokens() {
        LeaseCluster x = new LeaseCluster(0);
        for (int term = 1; term <= 3; term++) {
            due("the term", x.acquire(0, 10), term);
            x.send(0, 1, 10 * term);
            x.send(0, 1, 10 * term + 1);
            x.giveUp(0);
        }
        due("the token 2 on 0", x.deliver(2), 1);
        due("an equal token", x.deliver(3), 1);
        due("its value", x.cell(1, 0), 21);
        due("a token that is less by one", x.deliver(1), 0);
        due("the value stays", x.cell(1, 0), 21);
        due("the token stays", x.cell(1, 1), 2);
        due("a token that is greater by one", x.deliver(5), 1);
        due("its value", x.cell(1, 0), 31);
        due("its token", x.cell(1, 1), 3);
        due("a token that is less by two", x.deliver(0), 0);
        due("refused", x.count(6), 2);
        due("again", x.deliver(0), STATE);
    }

    // ---- scenarios

    private static void scenarios() {
        test("Scenarios. There is a text of at most 100 bytes, empty at first, which describes calls:", () -> {
            due("empty at first", fresh().count(7), 0);
            due("without calls", fresh().run(), 0);
            due("full", fullText().count(7), 100);
            due("all of it counts", fullText().run(), 33);
            due("one more", fullText().type(' '), FULL);
        });
        test("scenario = { call } call = letter { number } \";\"", () -> {
            for (int calls = 0; calls <= 33; calls++) {
                due(calls + " calls", runOf("g9;".repeat(calls)), calls);
                due("a call that is not ended", runOf("g9;".repeat(calls) + "g"), -2001 - 3 * calls);
            }
            due("no letter", runOf("0;"), -2000);
            due("no number", runOf("g;"), -2001);
            due("no semicolon", runOf("g0"), -2002);
            due("nothing but a semicolon", runOf(";"), -2000);
            due("a semicolon too many", runOf("g0;;"), -2003);
        });
        test("The letters are a for acquire(), r for renew(), g for giveUp(), h for handOver(), w for write(), b for"
                + " barrier(), p for pass(), s for setState(), c for cutting a link and m for mending it (setLink()"
                + " with false and true).", TermsEdgeTest::letters);
        test("Each has as many numbers as the method has int arguments, in their order.", TermsEdgeTest::numbersOfCalls);
        test("A number has 1 to 3 digits, and any digits are allowed in it; a number is the longest possible run of"
                + " digits.", TermsEdgeTest::digits);
        test("Blanks (byte 32) can stand before and after letters, numbers and semicolons, and are needed only between"
                + " two numbers.", TermsEdgeTest::blanks);
        test("The fault of a text is the index of the first byte that cannot stand at its place, also of a fourth"
                + " digit of a number; or the length of the text, if it ends too early.", TermsEdgeTest::faults);
    }

    private static void letters() {
        for (int letter = 0; letter <= 127; letter++) {
            boolean begins = LETTERS.indexOf(letter) >= 0;
            due("the letter " + letter, runOf("" + (char) letter), begins ? -2001 : letter == ' ' ? 0 : -2000);
        }
        LeaseCluster x = new LeaseCluster(0);
        typed(x, "a2 50;r2 060;w2 7 999;b2;p10;h2 3 20;s1 1;c0 4;m4 0;g3;").run();
        long[] got = new long[11];
        for (int i = 0; i < got.length; i++) {
            got[i] = x.result(i);
        }
        dueAll("results", got, 1, 60, 0, 1, 10, 2, 0, 1, 0, 4, NONE);
        due("the link is mended", x.count(10), 10);
        LeaseCluster cut = typed(new LeaseCluster(0), "c0 4;");
        cut.run();
        due("the link is cut", cut.setLink(4, 0, true), 0);
    }

    /** A call with this many numbers, each of them 0. */
    private static String call(char letter, int numbers) {
        return letter + " 0".repeat(numbers) + ";";
    }

    private static void numbersOfCalls() {
        String[] withNumbers = {"", "gbp", "arscm", "hw"};
        for (int n = 1; n <= 3; n++) {
            for (char letter : withNumbers[n].toCharArray()) {
                due(letter + " with " + n, runOf(call(letter, n)), 1);
                due(letter + " with one less", runOf(call(letter, n - 1)), -2000 - (2 * n - 1));
                due(letter + " with one more", runOf(call(letter, n + 1)), -2000 - (2 * n + 2));
            }
        }
        LeaseCluster x = led();
        typed(x, "w0 1 2;w0 3 4;h0 1 50;").run();
        due("the key", x.entry(0, 0, 1), 1);
        due("the value", x.entry(0, 0, 2), 2);
        due("the key of the next call", x.entry(0, 1, 1), 3);
        due("its value", x.entry(0, 1, 2), 4);
        due("the heir", x.holds(1), 1);
        due("the duration", x.known(1, 4), 50);
    }

    private static void digits() {
        String[] good = {"0", "9", "00", "99", "000", "999", "007", "010"};
        int[] numbers = {0, 9, 0, 99, 0, 999, 7, 10};
        for (int i = 0; i < good.length; i++) {
            LeaseCluster x = led();
            due(good[i], typed(x, "w0 0 " + good[i] + ";").run(), 1);
            due("the value of " + good[i], x.entry(0, 0, 2), numbers[i]);
        }
        for (int last = 0; last <= 9; last++) {
            due("four digits", runOf("p000" + last + ";"), -2004);
        }
        due("four digits that end the text", runOf("p1234"), -2004);
        due("no digit", runOf("p;"), -2001);
        // The longest run: two digits are one number, so the second number is wanted.
        due("a run of two", runOf("a01;"), -2003);
        due("a run of four is no two numbers", runOf("a0010;"), -2004);
    }

    private static void blanks() {
        due("nothing but blanks", runOf(" ".repeat(100)), 0);
        due("everywhere", runOf("  w  0  0  0  ;  g  0  ;  "), 2);
        due("nowhere but between two numbers", runOf("w0 0 0;g0;"), 2);
        due("not within a number", runOf("g1 2;"), -2003);
        due("needed between two numbers", runOf("s00;"), -2003);
        for (int other : new int[] {0, 9, 10, 13, 31, 33, 127}) {
            due("no blank before a letter", runOf((char) other + "g0;"), -2000);
            due("no blank before a number", runOf("g" + (char) other + "0;"), -2001);
            due("no blank after a number", runOf("g0" + (char) other + ";"), -2002);
            due("no blank after a semicolon", runOf("g0;" + (char) other), -2003);
        }
    }

    private static void faults() {
        for (int next = 0; next <= 127; next++) {
            boolean digit = next >= '0' && next <= '9';
            boolean blank = next == ' ';
            boolean end = next == ';';
            boolean letter = LETTERS.indexOf(next) >= 0;
            due("after a letter", runOf("g" + (char) next), digit || blank ? -2002 : -2001);
            due("after the only number", runOf("g0" + (char) next), end ? 1 : digit || blank ? -2003 : -2002);
            due("after three digits", runOf("g000" + (char) next), end ? 1 : blank ? -2005 : -2004);
            due("after the only number and a blank", runOf("g0 " + (char) next), end ? 1 : blank ? -2004 : -2003);
            due("after the first of two", runOf("a0" + (char) next), digit || blank ? -2003 : -2002);
            due("before the second of two", runOf("a0 " + (char) next), digit || blank ? -2004 : -2003);
            due("after a call", runOf("g0;" + (char) next), blank ? 1 : letter ? -2004 : -2003);
        }
        due("the first of two faults", runOf("g0;x;y"), -2003);
        due("the first byte", runOf("x" + " ".repeat(99)), -2000);
        due("the last byte of a full text", runOf(" ".repeat(99) + "x"), -2099);
        due("a full text that ends too early", runOf(" ".repeat(99) + "g"), -2100);
        due("a full text that lacks its semicolon", runOf(" ".repeat(98) + "g0"), -2100);
        due("a full text", runOf(" ".repeat(97) + "g0;"), 1);
    }

    // ---- the rest of the section

    private static void examples() {
        noEdge("Examples: Each of them begins with a new object; the results are given behind the calls.");
        test("1. two servers, one lease after the other: new LeaseCluster(5); acquire(0, 30) = 1; known(0, 4) = 30;"
                + " safeFor(0) = 25; waitFor(1) = 35; acquire(1, 30) = -10; reason(0) = 3; pass(35) = 35; holds(0) ="
                + " 0; acquire(1, 30) = 3; known(1, 3) = 3.", () -> {
            LeaseCluster x = new LeaseCluster(5);
            dueAll("example 1", new long[] {x.acquire(0, 30), x.known(0, 4), x.safeFor(0), x.waitFor(1),
                x.acquire(1, 30), x.reason(0), x.pass(35), x.holds(0), x.acquire(1, 30), x.known(1, 3)},
                    1, 30, 25, 35, -10, 3, 35, 0, 3, 3);
        });
        test("2. a write, its acknowledgement, and a lease that is handed over: new LeaseCluster(2); acquire(3, 50) ="
                + " 1; read(3, 4) = -1002; write(3, 4, 12) = 0; read(3, 4) = 12; log(0, 1) = 0; log(3, 4) = 1;"
                + " pass(4) = 4; log(3, 4) = 1; pass(1) = 5; acknowledgement(0, 3) = 5; handOver(3, 0, 20) = 2;"
                + " read(0, 4) = -1002; barrier(0) = 1; read(0, 4) = 12.", () -> {
            LeaseCluster x = new LeaseCluster(2);
            dueAll("example 2", new long[] {x.acquire(3, 50), x.read(3, 4), x.write(3, 4, 12), x.read(3, 4),
                x.log(0, 1), x.log(3, 4), x.pass(4), x.log(3, 4), x.pass(1), x.acknowledgement(0, 3),
                x.handOver(3, 0, 20), x.read(0, 4), x.barrier(0), x.read(0, 4)},
                    1, STATE, 0, 12, 0, 1, 4, 1, 5, 5, 2, STATE, 1, 12);
        });
        test("3. messages of a stale leader, and no majority: new LeaseCluster(0); acquire(0, 10) = 1; send(0, 1, 5) ="
                + " 0; pass(10) = 10; acquire(1, 10) = 2; send(1, 1, 6) = 1; deliver(1) = 1; deliver(0) = 0; cell(1,"
                + " 0) = 6; deliver(0) = -1002; send(0, 1, 7) = -1002; setState(2, 2) = 0; setState(3, 2) = 0;"
                + " write(1, 0, 1) = 0; setState(4, 2) = 0; write(1, 0, 2) = -12.", () -> {
            LeaseCluster x = new LeaseCluster(0);
            dueAll("example 3", new long[] {x.acquire(0, 10), x.send(0, 1, 5), x.pass(10), x.acquire(1, 10),
                x.send(1, 1, 6), x.deliver(1), x.deliver(0), x.cell(1, 0), x.deliver(0), x.send(0, 1, 7),
                x.setState(2, 2), x.setState(3, 2), x.write(1, 0, 1), x.setState(4, 2), x.write(1, 0, 2)},
                    1, 0, 10, 2, 1, 1, 0, 6, STATE, STATE, 0, 0, 0, 0, -12);
        });
        test("4. a scenario: new LeaseCluster(1); type(97) = 1; type(48) = 2; type(32) = 3; type(57) = 4; type(59) ="
                + " 5; type(112) = 6; type(32) = 7; type(51) = 8; type(59) = 9; run() = 2; result(0) = 1; result(1) ="
                + " 3; result(2) = -1000; type(49) = 10; run() = -2009.", () -> {
            LeaseCluster x = new LeaseCluster(1);
            dueAll("example 4", new long[] {x.type(97), x.type(48), x.type(32), x.type(57), x.type(59), x.type(112),
                x.type(32), x.type(51), x.type(59), x.run(), x.result(0), x.result(1), x.result(2), x.type(49),
                x.run()}, 1, 2, 3, 4, 5, 6, 7, 8, 9, 2, 1, 3, NONE, 10, -2009);
        });
    }

    private static void remarks() {
        test("The constants: `NONE = -1000, BAD = -1001, STATE = -1002, FULL = -1003`: No such thing; argument out of"
                + " range; not possible at present; limit reached.", () -> {
            due("no such thing", fresh().reason(0), LeaseCluster.NONE);
            due("argument out of range", fresh().reason(5), LeaseCluster.BAD);
            due("not possible at present", fresh().giveUp(0), LeaseCluster.STATE);
            due("limit reached", fullText().type(0), LeaseCluster.FULL);
        });
        noEdge("Ahead of the calls `setClock`, `clock`, `pass`, `setState`, `setLink` the interface says: ---- time,"
                + " clocks, failures. Ahead of the calls `acquire`, `renew`, `giveUp`, `handOver`, `reason`, `holds`,"
                + " `known` the interface says: ---- leases. Ahead of the calls `write`, `barrier`, `read`, `readAt`,"
                + " `log`, `entry`, `agreement`, `history`, `acknowledgement` the interface says: ---- the log. Ahead"
                + " of the calls `send`, `deliver`, `cell` the interface says: ---- the store.");
        test("Ahead of the calls `safeFor`, `waitFor`, `leastCrashes`, `staleKeys`, `isSafe` the interface says: ----"
                + " analyses; none of them changes anything.", () -> {
            for (int s = 0; s < 5; s++) {
                int server = s;
                silent(EdgeTest::busy, "safeFor", x -> x.safeFor(server));
                silent(EdgeTest::busy, "waitFor", x -> x.waitFor(server));
                silent(EdgeTest::busy, "staleKeys", x -> x.staleKeys(server));
            }
            silent(EdgeTest::busy, "leastCrashes", LeaseCluster::leastCrashes);
            silent(EdgeTest::busy, "isSafe", LeaseCluster::isSafe);
        });
        noEdge("Ahead of the calls `type`, `clear`, `run`, `result` the interface says: ---- scenarios. Ahead of the"
                + " calls `save`, `restore`, `count`, `digest` the interface says: ---- snapshots.");
    }
}
