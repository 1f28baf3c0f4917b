import java.math.BigInteger;
import java.util.function.Consumer;
import java.util.function.Supplier;

/** The edges that the promises 26 to 38 name: analyses, scenarios, snapshots; and that no promise is left out. */
public final class AnalysisAndTextEdgeTest extends EdgeTest {
    private static final String SERVER = "`server`: 0 to 4";
    private static final int PROMISES = 38;
    private static final long FIRST_WITHOUT_DOUBT = 216853695672088445L;
    private static final long FIRST_WITH_DOUBT_20 = 5092072394854613225L;

    public static void main(String[] args) {
        safeFor();
        waitFor();
        leastCrashes();
        staleKeys();
        isSafe();
        type();
        clear();
        run();
        result();
        save();
        restore();
        count();
        digest();
        allSections();
        finish();
    }

    /** Server 4 leads with the term 1 until 100. */
    private static LeaseCluster ledBy4() {
        LeaseCluster x = new LeaseCluster(0);
        x.acquire(4, 100);
        return x;
    }

    /** These servers are running, the others are crashed; nothing else has happened. */
    private static LeaseCluster only(int... running) {
        LeaseCluster x = new LeaseCluster(0);
        state(x, 2, 0, 1, 2, 3, 4);
        state(x, 0, running);
        return x;
    }

    // ---- analyses

    private static void safeFor() {
        section("Promise 26: safeFor");
        test("Tells how long a server would still hold its lease if nothing happened but time.", () -> {
            LeaseCluster x = new LeaseCluster(3);
            x.setClock(0, 2);
            x.acquire(0, 50);
            due("the duration less the doubt", x.safeFor(0), 47);
            x.pass(46);
            due("it holds it", x.holds(0), 1);
            due("one tick is left", x.safeFor(0), 1);
            x.pass(1);
            due("it does not hold it", x.holds(0), 0);
            due("nothing is left", x.safeFor(0), 0);
        });
        test(SERVER, () -> {
            servers(EdgeTest::led, "safeFor", 100, 0, (x, s) -> x.safeFor(s));
            servers(AnalysisAndTextEdgeTest::ledBy4, "safeFor", 0, 100, (x, s) -> x.safeFor(s));
        });
        test("Returns the number of ticks after which it does not hold it any more, 0 if it does not hold it now; BAD.",
                () -> {
            due("without a lease", fresh().safeFor(0), 0);
            LeaseCluster paused = led();
            paused.setState(0, 1);
            due("paused", paused.safeFor(0), 0);
            LeaseCluster over = led();
            over.pass(101);
            due("over", over.safeFor(0), 0);
            LeaseCluster never = new LeaseCluster(20);
            never.acquire(0, 19);
            due("shorter than the doubt", never.safeFor(0), 0);
            LeaseCluster longest = new LeaseCluster(20);
            longest.setClock(0, 20);
            longest.acquire(0, 100);
            longest.setClock(0, -20);
            due("the longest of all", longest.safeFor(0), 120);
            LeaseCluster late = late(5);
            late.acquire(0, 100);
            due("beyond the end of time", late.safeFor(0), 100);
        });
    }

    private static void waitFor() {
        section("Promise 27: waitFor");
        test("Tells how long a server would have to wait until acquire() gave it a lease, if nothing happened but time.",
                () -> {
            // With the doubt 2, free after 32, 32, 30, 31 and 34 ticks: three of them after 32.
            due("the third that is free", bound(0).waitFor(1), 32);
            due("a tick before two grant", bound(31).acquire(1, 5), -12);
            due("then three grant", bound(32).acquire(1, 5), 2);
            due("what is left", bound(31).waitFor(1), 1);
            due("nothing is left", bound(32).waitFor(1), 0);
            due("nor later", bound(33).waitFor(1), 0);
            for (int third = 0; third < 5; third++) {
                due("the third is " + third, thirdFree(third).waitFor(1), 32);
            }
        });
        test("(A lease that it holds itself is not considered.)", () -> {
            due("acquire() of the holder", led().acquire(0, 1), STATE);
            due("but it need not wait", led().waitFor(0), 0);
        });
        test(SERVER, () -> {
            servers(EdgeTest::led, "waitFor", 0, 100, (x, s) -> x.waitFor(s));
            servers(AnalysisAndTextEdgeTest::ledBy4, "waitFor", 100, 0, (x, s) -> x.waitFor(s));
            servers(EdgeTest::busy, "waitFor", 61, NONE, (x, s) -> x.waitFor(s));
        });
        test("Returns the smallest number of ticks, 0 or greater; NONE if it would never get one (also if it is not"
                + " running); BAD.", AnalysisAndTextEdgeTest::waits);
    }

    /** The doubt is 2; server 0 has a lease until 30, the clocks differ, and some ticks have passed. */
    private static LeaseCluster bound(int ticks) {
        LeaseCluster x = new LeaseCluster(2);
        x.acquire(0, 30);
        x.setClock(2, 2);
        x.setClock(3, 1);
        x.setClock(4, -2);
        if (ticks > 0) {
            x.pass(ticks);
        }
        return x;
    }

    /** All clocks differ; one server is free after 32 ticks, two are earlier and two later. */
    private static LeaseCluster thirdFree(int third) {
        LeaseCluster x = new LeaseCluster(2);
        x.acquire(0, 30);
        for (int i = 0; i < 5; i++) {
            x.setClock((third + i) % 5, i < 3 ? i : i - 5);
        }
        return x;
    }

    private static void waits() {
        due("at first", fresh().waitFor(4), 0);
        LeaseCluster longest = new LeaseCluster(20);
        longest.setClock(0, 20);
        longest.acquire(0, 100);
        for (int v = 0; v < 5; v++) {
            longest.setClock(v, -20);
        }
        due("the longest of all", longest.waitFor(1), 160);
        longest.pass(159);
        due("a tick before", longest.acquire(1, 1), -10);
        due("paused", paused(0).waitFor(0), NONE);
        due("crashed", only(1, 2, 3, 4).waitFor(0), NONE);
        due("three are enough", only(0, 1, 2).waitFor(0), 0);
        due("two are not", only(0, 1).waitFor(0), NONE);
        LeaseCluster cut = fresh();
        cut.setLink(0, 3, false);
        cut.setLink(0, 4, false);
        due("three are reached", cut.waitFor(0), 0);
        cut.setLink(0, 2, false);
        due("two are reached", cut.waitFor(0), NONE);
        // The term of 0 becomes 1 by asking: the terms of the others are 0, then 1.
        due("lower terms", only(0, 1, 2).waitFor(0), 0);
        LeaseCluster terms = only(1, 2, 3);
        terms.acquire(1, 1);
        terms.giveUp(1);
        state(terms, 0, 0);
        due("terms that are as great", terms.waitFor(0), NONE);
        terms.acquire(0, 1);
        due("after asking once", terms.waitFor(0), 0);
        LeaseCluster logs = only(1, 2, 3);
        logs.acquire(1, 10);
        logs.write(1, 0, 0);
        state(logs, 0, 0);
        logs.acquire(0, 1);
        due("a log that is too old", logs.waitFor(0), NONE);
        due("one that is not", logs.waitFor(2), 10);
        LeaseCluster late = late(5);
        late.acquire(0, 100);
        due("beyond the end of time", late.waitFor(1), 100);
    }

    private static LeaseCluster paused(int server) {
        LeaseCluster x = fresh();
        x.setState(server, 1);
        return x;
    }

    private static void leastCrashes() {
        section("Promise 28: leastCrashes");
        test("Finds the fewest crashes of running servers after which waitFor() would be NONE for all servers.", () -> {
            due("three of five", fresh().leastCrashes(), 7);
            LeaseCluster x = paused(0);
            due("two of four; the paused one is not running", x.leastCrashes(), 6);
            x.setState(1, 2);
            due("one of three", x.leastCrashes(), 4);
            due("waiting does not matter", led().leastCrashes(), 7);
        });
        test("Returns the set of these servers as bits (bit s for server s): one with the fewest servers, of several the"
                + " smallest number;", () -> {
            due("bit 0", only(0, 1, 2).leastCrashes(), 1);
            due("bit 2", only(2, 3, 4).leastCrashes(), 4);
            due("bits 1 and 2", only(1, 2, 3, 4).leastCrashes(), 6);
            due("bits 0 and 1", only(0, 1, 3, 4).leastCrashes(), 3);
            for (int middle = 0; middle < 5; middle++) {
                due("all need " + middle, star(middle).leastCrashes(), 1 << middle);
            }
            // 0, 1 and 2 have an entry that 3 and 4 lack: no two crashes stop all three of them.
            LeaseCluster logs = only(0, 1, 2);
            logs.acquire(0, 10);
            logs.write(0, 0, 0);
            state(logs, 0, 3, 4);
            due("three", logs.leastCrashes(), 7);
        });
        test("0 if waitFor() is NONE for all servers already.", () -> {
            due("two are running", only(3, 4).leastCrashes(), 0);
            due("one is running", only(4).leastCrashes(), 0);
            due("none is running", only().leastCrashes(), 0);
            LeaseCluster x = star(2);
            x.setState(2, 1);
            due("the middle is paused", x.leastCrashes(), 0);
            due("one more would be too few", only(2, 3, 4).leastCrashes(), 4);
        });
    }

    /** Only the links of one server are up. */
    private static LeaseCluster star(int middle) {
        LeaseCluster x = fresh();
        for (int s = 0; s < 5; s++) {
            links(x, s, false);
        }
        links(x, middle, true);
        return x;
    }

    private static void staleKeys() {
        section("Promise 29: staleKeys");
        test("Counts stale keys: those for which the last value in the committed part of a server's log is not the last"
                + " value in the committed history (a key without a value in one of them and with a value in the"
                + " other one is stale, too).", () -> {
            LeaseCluster x = led();
            due("no values at all", x.staleKeys(4), 0);
            x.write(0, 0, 0);
            due("no value and the value 0", x.staleKeys(4), 1);
            x.barrier(0);
            due("the same value", x.staleKeys(4), 0);
            x.write(0, 0, 1);
            due("another value", x.staleKeys(4), 1);
            x.write(0, 0, 0);
            due("an earlier one is still the last of 4", x.staleKeys(4), 1);
            x.setState(4, 1);
            x.barrier(0);
            x.write(0, 0, 1);
            due("the value 1 came back", x.staleKeys(4), 0);
            state(x, 1, 2, 3);
            x.write(0, 0, 5);
            due("what is not committed does not count", x.staleKeys(0), 0);
        });
        test(SERVER, () -> servers(EdgeTest::busy, "staleKeys", 0, 1, (x, s) -> x.staleKeys(s)));
        test("Returns the number of keys; BAD.", () -> {
            LeaseCluster x = led();
            x.setState(4, 2);
            for (int key = 0; key < 8; key++) {
                due("keys", x.staleKeys(4), key);
                x.write(0, key, key);
            }
            due("all keys", x.staleKeys(4), 8);
            due("none", x.staleKeys(0), 0);
        });
    }

    private static void isSafe() {
        section("Promise 30: isSafe");
        test("Checks the safety rules: at most one server holds its lease; the committed parts of all logs are beginnings"
                + " of the committed history; and within each log terms do not decrease and timestamps increase.", () -> {
            due("no holder, empty logs", fresh().isSafe(), 1);
            due("one holder", led().isSafe(), 1);
            due("full logs", fullLog().isSafe(), 1);
            due("a committed part that is not full", busy().isSafe(), 1);
        });
        test("Returns 1 if all of them are kept, 0 if not.", AnalysisAndTextEdgeTest::brokenRules);
    }

    /** No calls break the rules, so they are broken by the inside. */
    private static void brokenRules() {
        due("a lease of 4 that is not held", brokenLease(0), 1);
        due("two holders", brokenLease(1), 0);
        for (int server = 0; server < 5; server++) {
            brokenLogs(server);
        }
    }

    /** Of the entries (1, 5, 5, 0), (1, 5, 6, 1) and (1, 5, 7, 2) one is committed, two are not. */
    private static void brokenLogs(int s) {
        due("nothing", broken(s, numbers -> { }), 1);
        due("another committed entry", broken(s, numbers -> numbers[2] = 0), 0);
        due("another entry that is not committed", broken(s, numbers -> numbers[6] = 0), 1);
        due("a greater term", broken(s, numbers -> numbers[8] = 2), 1);
        due("a lower term", broken(s, numbers -> numbers[8] = 0), 0);
        due("a lower term of the second", broken(s, numbers -> numbers[4] = 0), 0);
        due("terms that rise and fall", broken(s, numbers -> {
            numbers[4] = 3;
            numbers[8] = 2;
        }), 0);
        due("a timestamp that is as great", broken(s, numbers -> numbers[11] = 1), 0);
        due("a timestamp that is less", broken(s, numbers -> numbers[11] = 0), 0);
        due("one of the second that is as great", broken(s, numbers -> numbers[7] = 0), 0);
        due("timestamps that rise and fall", broken(s, numbers -> {
            numbers[7] = 9;
            numbers[11] = 8;
        }), 0);
        due("a timestamp that is greater by more than one", broken(s, numbers -> numbers[11] = 9), 1);
        due("the whole history is committed", brokenLength(s, 1), 1);
        due("a committed part that is longer than the history", brokenLength(s, 2), 0);
        due("an empty committed part", brokenLength(s, 0), 1);
    }

    private static int brokenLease(int end) {
        LeaseCluster x = led();
        Object server = inside(x, "world", "servers", "4");
        put(server, "leaseTerm", 1);
        put(server, "leaseEnd", end);
        return x.isSafe();
    }

    /** The history has one entry; the logs of 0 and of one more have two more. */
    private static LeaseCluster withUncommitted(int other) {
        LeaseCluster x = led();
        x.write(0, 5, 5);
        state(x, 1, 1, 2, 3, 4);
        if (other != 0) {
            x.setState(other, 0);
        }
        x.write(0, 5, 6);
        x.write(0, 5, 7);
        return x;
    }

    private static int broken(int server, Consumer<int[]> change) {
        LeaseCluster x = withUncommitted(server);
        change.accept((int[]) inside(x, "world", "servers", "" + server, "log", "entries", "numbers"));
        return x.isSafe();
    }

    private static int brokenLength(int server, int committed) {
        LeaseCluster x = withUncommitted(server);
        put(inside(x, "world", "servers", "" + server, "log"), "committed", committed);
        return x.isSafe();
    }

    // ---- scenarios

    private static void type() {
        section("Promise 31: type");
        noEdge("Appends a byte to the text.");
        test("`letter`: 0 to 127", () -> {
            range(EdgeTest::busy, "type", 0, 12, 127, 12, (x, letter) -> x.type(letter));
            range(EdgeTest::fullText, "type to a full text", 0, FULL, 127, FULL, (x, letter) -> x.type(letter));
        });
        test("Returns the length of the text then; BAD; FULL if it has 100 bytes.", () -> {
            LeaseCluster x = fresh();
            for (int length = 1; length <= 100; length++) {
                due("the length", x.type(' '), length);
            }
            due("the 101st", x.type(' '), FULL);
            due("the length stays", x.count(7), 100);
            x.clear();
            due("after clear()", x.type(' '), 1);
            refused(EdgeTest::fullText, "type(' ')", y -> y.type(' '), FULL);
        });
    }

    private static void clear() {
        section("Promise 32: clear");
        test("Empties the text.", () -> {
            LeaseCluster x = fullText();
            x.clear();
            due("its length", x.count(7), 0);
            due("no calls", x.run(), 0);
            silent(EdgeTest::fresh, "clear() of an empty text", LeaseCluster::clear);
            LeaseCluster y = busy();
            y.clear();
            due("the results stay", y.count(8), 2);
            due("also the first", y.result(0), STATE);
        });
        test("Returns the length that it had.", () -> {
            due("empty", fresh().clear(), 0);
            due("one byte", typed(fresh(), "x").clear(), 1);
            due("full", fullText().clear(), 100);
            LeaseCluster x = fullText();
            x.clear();
            due("twice", x.clear(), 0);
        });
    }

    private static void run() {
        section("Promise 33: run");
        test("Makes the calls of the text, one after the other, whatever they return.", () -> {
            LeaseCluster x = typed(new LeaseCluster(0), "p0;p201;s9 0;g0;a0 9;a0 9;b0;p1;c1 1;p2;");
            due("run()", x.run(), 10);
            int[] due = {BAD, BAD, BAD, STATE, 1, STATE, 0, 1, BAD, 3};
            for (int i = 0; i < due.length; i++) {
                due("result " + i, x.result(i), due[i]);
            }
            due("the time", x.count(0), 3);
            LeaseCluster fewer = typed(new LeaseCluster(0), "p1;p2;p3;");
            fewer.run();
            fewer.clear();
            due("a text with fewer calls", typed(fewer, "p1;").run(), 1);
            due("makes no other call", fewer.count(0), 7);
            fewer.clear();
            fewer.run();
            due("an empty text makes none", fewer.count(0), 7);
        });
        test("The text stays.", () -> {
            LeaseCluster x = fullText();
            for (int times = 1; times <= 3; times++) {
                due("run()", x.run(), 33);
                due("the time", x.count(0), 33 * times);
                due("the text", x.count(7), 100);
            }
            LeaseCluster fault = typed(fresh(), "p1;x");
            due("a fault", fault.run(), -2003);
            due("the text", fault.count(7), 4);
            due("the same fault", fault.run(), -2003);
        });
        test("Returns the number of calls; -2000 - p if the text has the fault p (nothing is called then).", () -> {
            due("no calls", fresh().run(), 0);
            due("one call", runOf("p1;"), 1);
            due("the most calls", fullText().run(), 33);
            for (int p = 0; p < 100; p++) {
                due("the fault " + p, runOf(" ".repeat(p) + "x"), -2000 - p);
            }
            due("the fault 100", runOf(" ".repeat(99) + "p"), -2100);
            refused(() -> typed(busy(), "p1"), "run() with a text that ends too early", LeaseCluster::run, -2013);
            refused(() -> typed(busy(), "p1;;"), "run() with a fault at the end", LeaseCluster::run, -2014);
            refused(() -> typed(busy(), "p1234;p1;"), "run() with a fourth digit", LeaseCluster::run, -2015);
        });
    }

    private static void result() {
        section("Promise 34: result");
        test("Returns what a call of the latest run() without a fault returned.", () -> {
            LeaseCluster x = typed(fresh(), "p1;p2;");
            x.run();
            x.run();
            due("of the latest", x.result(1), 6);
            typed(x, "x").run();
            due("not of one with a fault", x.result(1), 6);
            x.clear();
            typed(x, "p1;").run();
            due("of the latest", x.result(0), 7);
            due("not of one before", x.result(1), NONE);
            x.clear();
            x.run();
            due("the latest made no call", x.result(0), NONE);
        });
        test("`index`: which of the calls, from 0", () -> {
            LeaseCluster x = fullText();
            x.run();
            for (int i = 0; i < 33; i++) {
                due("result " + i, x.result(i), i + 1);
            }
        });
        test("Returns what it returned; NONE if there were not so many calls; BAD if index is negative.", () -> {
            due("an error", busy().result(0), STATE);
            due("another", busy().result(1), BAD);
            due("no run() yet", fresh().result(0), NONE);
            due("a call too many", busy().result(2), NONE);
            LeaseCluster x = fullText();
            x.run();
            due("the last", x.result(32), 33);
            due("one more", x.result(33), NONE);
            due("more", x.result(34), NONE);
            due("far more", x.result(100), NONE);
            due("the greatest number", x.result(MAX), NONE);
            for (int index : new int[] {-1, MIN}) {
                refused(EdgeTest::busy, "result(" + index + ")", y -> y.result(index), BAD);
                refused(EdgeTest::fresh, "result(" + index + ")", y -> y.result(index), BAD);
            }
        });
    }

    // ---- snapshots

    /** All that a snapshot holds is other than it was in busy(). */
    private static void stir(LeaseCluster x) {
        x.deliver(1);
        x.setState(4, 0);
        x.setLink(2, 4, true);
        x.setLink(0, 1, false);
        x.setClock(1, 2);
        x.setClock(3, -2);
        x.write(1, 3, 34);
        x.pass(100);
        x.acquire(2, 40);
        x.send(2, 0, 1);
        x.deliver(3);
        x.write(2, 0, 0);
        x.setState(0, 2);
    }

    private static void save() {
        section("Promise 35: save");
        test("Saves everything except the text and the results of scenarios in a snapshot, in place of what it holds.",
                AnalysisAndTextEdgeTest::everything);
        test("`k`: 0 or 1", () -> range(EdgeTest::busy, "save", 0, 6, 1, 6, (x, k) -> x.save(k)));
        test("Returns the true time; BAD.", () -> {
            due("0", fresh().save(0), 0);
            due("the greatest", late(0).save(1), 100000);
        });
    }

    private static void everything() {
        for (int snapshot = 0; snapshot < 2; snapshot++) {
            int k = snapshot;
            silent(() -> saved(k), "what was done was undone", x -> {
                stir(x);
                return x.restore(k);
            });
        }
        LeaseCluster x = saved(1);
        x.clear();
        typed(x, "p9;").run();
        x.restore(1);
        due("the text stays", x.count(7), 3);
        due("the results stay", x.result(0), 15);
        due("also their number", x.count(8), 1);
        due("the time does not", x.count(0), 6);
        LeaseCluster y = busy();
        y.save(1);
        y.pass(1);
        y.save(1);
        y.pass(1);
        due("in place of what it held", y.restore(1), 7);
        due("the other one is left", y.restore(0), 0);
        LeaseCluster full = fullLog();
        full.save(0);
        full.pass(200);
        full.restore(0);
        dueAll("a full log", log(full, 0), 40, 40, 1, 39, 40);
        LeaseCluster first = fresh();
        first.save(0);
        first.acquire(0, 10);
        first.restore(0);
        due("no reasons at first", first.reason(0), NONE);
    }

    /** As busy(), and saved in a snapshot. */
    private static LeaseCluster saved(int k) {
        LeaseCluster x = busy();
        x.save(k);
        return x;
    }

    private static void restore() {
        section("Promise 36: restore");
        test("Restores what a snapshot holds.", () -> {
            LeaseCluster x = busy();
            long first = x.digest();
            x.save(0);
            stir(x);
            long second = x.digest();
            x.save(1);
            for (int times = 0; times < 2; times++) {
                x.restore(0);
                due("the first, again and again", x.digest(), first);
                x.restore(1);
                due("the second", x.digest(), second);
            }
            x.restore(0);
            stir(x);
            due("the same calls lead to the same", x.digest(), second);
        });
        test("`k`: 0 or 1", () -> {
            range(EdgeTest::busy, "restore", 0, 0, 1, STATE, (x, k) -> x.restore(k));
            range(() -> saved(1), "restore", 0, 0, 1, 6, (x, k) -> x.restore(k));
        });
        test("Returns the true time then; BAD; STATE if nothing was saved in it.", () -> {
            refused(EdgeTest::fresh, "restore(0)", x -> x.restore(0), STATE);
            refused(EdgeTest::fresh, "restore(1)", x -> x.restore(1), STATE);
            refused(EdgeTest::busy, "restore(1), when 0 is saved", x -> x.restore(1), STATE);
            LeaseCluster other = fresh();
            other.save(1);
            due("restore(0), when 1 is saved", other.restore(0), STATE);
            due("the time 0", other.restore(1), 0);
            LeaseCluster late = late(0);
            late.save(0);
            due("the greatest time", late.restore(0), 100000);
            due("which is still the end", late.pass(1), FULL);
            LeaseCluster before = late(1);
            before.save(0);
            before.pass(1);
            due("before the end", before.restore(0), 99999);
            due("time passes again", before.pass(1), 100000);
        });
    }

    private static long[] counts(LeaseCluster x) {
        long[] all = new long[11];
        for (int what = 0; what < all.length; what++) {
            all[what] = x.count(what);
        }
        return all;
    }

    private static void count() {
        section("Promise 37: count");
        noEdge("Returns a number.");
        test("`what`: 0: the true time; 1: the doubt; 2: the length of the committed history; 3: acknowledgements that are"
                + " kept; 4: acknowledgements that were ever given; 5: messages; 6: messages that were refused; 7: bytes"
                + " of the text; 8: results of the latest scenario; 9: the set of servers that hold their lease, as bits;"
                + " 10: the number of links that are up", () -> {
            range(EdgeTest::busy, "count", 0, 6, 10, 9, (x, what) -> x.count(what));
            dueAll("at first", counts(new LeaseCluster(0)), 0, 0, 0, 0, 0, 0, 0, 0, 0, 0, 10);
            dueAll("later", counts(busy()), 6, 2, 3, 1, 1, 3, 1, 11, 2, 2, 9);
        });
        test("Returns the number; BAD.", () -> {
            due("the greatest time", late(0).count(0), 100000);
            due("the greatest doubt", new LeaseCluster(MAX).count(1), 20);
            due("the longest history", fullLog().count(2), 40);
            due("the most messages", fullStore().count(5), 20);
            due("the longest text", fullText().count(7), 100);
            LeaseCluster run = fullText();
            run.run();
            due("the most results", run.count(8), 33);
            for (int s = 0; s < 5; s++) {
                LeaseCluster x = new LeaseCluster(0);
                x.acquire(s, 1);
                due("the holder " + s, x.count(9), 1 << s);
                x.pass(1);
                due("no holder", x.count(9), 0);
            }
            LeaseCluster cut = star(0);
            due("four links", cut.count(10), 4);
            links(cut, 0, false);
            due("no link", cut.count(10), 0);
        });
    }

    private static void digest() {
        section("Promise 38: digest");
        noEdge("Returns a hash.");
        test("It is 2525 at first; for each of the following numbers, in this order, it becomes 31 times itself plus the"
                + " number (long arithmetic with overflow):", AnalysisAndTextEdgeTest::overflow);
        test("count(0) to count(10); for each server clock(s, 0), its state, holds(s), known(s, 0) to known(s, 4), log(s,"
                + " 0) to log(s, 4), and entry(s, i, 0) to entry(s, i, 3) for all its entries; for each kept"
                + " acknowledgement its parts 0 to 3; for each cell its value and its token; reason(0) to reason(4).", () -> {
            dueHash("at first", EdgeTest::fresh, 0, 0, 0, 0, 0);
            dueHash("busy", EdgeTest::busy, 0, 0, 0, 0, 1);
            dueHash("stirred", AnalysisAndTextEdgeTest::stirred, 2, 0, 0, 0, 0);
            dueHash("full logs", EdgeTest::fullLog, 0, 0, 0, 0, 0);
            dueHash("a full store", EdgeTest::fullStore, 0, 0, 0, 0, 0);
            dueHash("a full text", EdgeTest::fullText, 0, 0, 0, 0, 0);
            dueHash("all crashed", () -> only(), 2, 2, 2, 2, 2);
            dueHash("all acknowledged", AnalysisAndTextEdgeTest::acknowledged, 0, 0, 0, 0, 0);
        });
        test("Returns the hash.", () -> silent(EdgeTest::busy, "digest", LeaseCluster::digest));
    }

    private static void overflow() {
        // Worked out apart from the class, without a bound, and then taken modulo 2 to the power of 64.
        due("at first without doubt", new LeaseCluster(0).digest(), FIRST_WITHOUT_DOUBT);
        due("at first with the doubt 20", new LeaseCluster(20).digest(), FIRST_WITH_DOUBT_20);
        BigInteger whole = hash(() -> new LeaseCluster(0), 0, 0, 0, 0, 0);
        due("more than a long holds", whole.bitLength() > 64 ? 1 : 0, 1);
        due("the rest of it", new LeaseCluster(0).digest(), whole.longValue());
        int below = 0;
        for (int ticks = 1; ticks <= 50; ticks++) {
            int passed = ticks;
            dueHash("after ticks", () -> after(passed), 0, 0, 0, 0, 0);
            below += after(passed).digest() < 0 ? 1 : 0;
        }
        due("some are below 0, some are not", below > 0 && below < 50 ? 1 : 0, 1);
    }

    private static LeaseCluster after(int ticks) {
        LeaseCluster x = fresh();
        x.pass(ticks);
        return x;
    }

    private static LeaseCluster stirred() {
        LeaseCluster x = busy();
        stir(x);
        return x;
    }

    private static LeaseCluster acknowledged() {
        LeaseCluster x = fullLog();
        x.pass(200);
        return x;
    }

    private static void dueHash(String when, Supplier<LeaseCluster> state, int... states) {
        due(when, state.get().digest(), hash(state, states).longValue());
    }

    /** The hash without a bound. Each part is asked of an object of its own, so that none has too many calls. */
    private static BigInteger hash(Supplier<LeaseCluster> state, int... states) {
        BigInteger h = mix(BigInteger.valueOf(2525), counts(state.get()));
        for (int s = 0; s < 5; s++) {
            LeaseCluster x = state.get();
            h = mix(h, x.clock(s, 0), states[s], x.holds(s));
            h = mix(mix(h, known(x, s)), log(x, s));
            for (int i = 0; i < x.log(s, 0); i++) {
                h = mix(h, x.entry(s, i, 0), x.entry(s, i, 1), x.entry(s, i, 2), x.entry(s, i, 3));
            }
        }
        LeaseCluster x = state.get();
        for (int i = 0; i < x.count(3); i++) {
            h = mix(h, x.acknowledgement(i, 0), x.acknowledgement(i, 1), x.acknowledgement(i, 2),
                    x.acknowledgement(i, 3));
        }
        for (int c = 0; c < 4; c++) {
            h = mix(h, x.cell(c, 0), x.cell(c, 1));
        }
        return mix(h, reasons(x));
    }

    private static BigInteger mix(BigInteger hash, long... numbers) {
        BigInteger mixed = hash;
        for (long number : numbers) {
            mixed = mixed.multiply(BigInteger.valueOf(31)).add(BigInteger.valueOf(number));
        }
        return mixed;
    }

    private static void allSections() {
        partOf("Not promised");
        test("nothing about an object after its 512th call.", () -> {
            int promises = 0;
            for (String title : sections()) {
                promises += title.startsWith("Promise ") ? 1 : 0;
            }
            // The edge tests begin each of these sections by its name; a new one would have no test.
            due("the promises of the document", sections().isEmpty() ? PROMISES : promises, PROMISES);
        });
    }
}
