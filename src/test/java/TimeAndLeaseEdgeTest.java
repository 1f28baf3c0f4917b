/** The edges that the promises 1 to 13 name: time, clocks, failures and leases. */
public final class TimeAndLeaseEdgeTest extends EdgeTest {
    private static final String SERVER = "`server`: 0 to 4";

    public static void main(String[] args) {
        newObject();
        setClock();
        clock();
        pass();
        setState();
        setLink();
        acquire();
        renew();
        giveUp();
        handOver();
        reason();
        holds();
        known();
        finish();
    }

    /** Server 4 leads with the term 1 until 100. */
    private static LeaseCluster ledBy4() {
        LeaseCluster x = new LeaseCluster(0);
        x.acquire(4, 100);
        return x;
    }

    private static void newObject() {
        section("Promise 1: A new object");
        test("Creates a cluster of five running servers at the true time 0.", () -> {
            for (int s = 0; s <= 4; s++) {
                due("running", fresh().setState(s, 1), 0);
                due("its clock", fresh().clock(s, 0), 0);
            }
            due("no server -1", fresh().setState(-1, 1), BAD);
            due("no sixth server", fresh().setState(5, 1), BAD);
            due("the true time", fresh().count(0), 0);
        });
        test("`doubt`: the doubt of all clocks; less than 0 counts as 0, and more than 20 as 20", () -> {
            int[][] doubts = {{MIN, 0}, {-21, 0}, {-1, 0}, {0, 0}, {1, 1}, {19, 19}, {20, 20}, {21, 20}, {MAX, 20}};
            for (int[] pair : doubts) {
                int d = pair[1];
                due("the doubt of " + pair[0], new LeaseCluster(pair[0]).count(1), d);
                for (int s = 0; s <= 4; s++) {
                    LeaseCluster x = new LeaseCluster(pair[0]);
                    due("the earliest time of " + s, x.clock(s, 1), -d);
                    due("the latest time of " + s, x.clock(s, 2), d);
                    due("the greatest offset", x.setClock(s, d), 0);
                    due("more than that", x.setClock(s, d + 1), BAD);
                }
            }
        });
    }

    private static void setClock() {
        section("Promise 2: setClock");
        noEdge("Sets the offset of a server's clock.");
        test(SERVER, () -> servers(EdgeTest::busy, "setClock", 0, 0, (x, s) -> x.setClock(s, 1)));
        test("`offset`: minus the doubt to the doubt", () -> {
            for (int d : new int[] {0, 1, 2, 19, 20}) {
                range(() -> new LeaseCluster(d), "setClock", -d, 0, d, 0, (x, offset) -> x.setClock(3, offset));
            }
        });
        test("Returns the previous offset; BAD.", () -> {
            LeaseCluster x = new LeaseCluster(20);
            due("at first", x.setClock(0, -20), 0);
            due("the least", x.setClock(0, 20), -20);
            due("BAD", x.setClock(0, 21), BAD);
            due("the greatest is still set", x.setClock(0, 20), 20);
            due("the same", x.setClock(0, 0), 20);
        });
    }

    private static void clock() {
        section("Promise 3: clock");
        noEdge("Returns a time of a server.");
        test(SERVER, () -> servers(EdgeTest::busy, "clock", 6, 6, (x, s) -> x.clock(s, 0)));
        test("`what`: 0: its reading; 1: its earliest time; 2: its latest time", () -> {
            range(EdgeTest::busy, "clock", 0, 5, 2, 7, (x, what) -> x.clock(1, what));
            due("1", busy().clock(1, 1), 3);
        });
        test("Returns the time; BAD.", () -> {
            LeaseCluster x = new LeaseCluster(20);
            x.setClock(0, -20);
            x.setClock(4, 20);
            due("the least of all", x.clock(0, 1), -40);
            due("0", x.clock(0, 2), 0);
            LeaseCluster late = late(0);
            due("at the end of time", late.clock(4, 2), 100000);
        });
    }

    private static void pass() {
        section("Promise 4: pass");
        test("Lets time pass, tick by tick; after each tick acknowledgements are given.", () -> {
            LeaseCluster x = led();
            x.write(0, 0, 0);
            x.write(0, 0, 1);
            x.write(0, 0, 2);
            x.pass(200);
            for (int i = 0; i < 3; i++) {
                due("the timestamp", x.acknowledgement(i, 2), i);
                due("the time", x.acknowledgement(i, 3), i + 1);
            }
            LeaseCluster one = led();
            one.write(0, 0, 0);
            one.pass(1);
            due("after the only tick", one.count(4), 1);
            LeaseCluster last = late(1);
            last.acquire(0, 100);
            last.write(0, 0, 0);
            last.pass(1);
            due("after the last tick of all", last.acknowledgement(0, 3), 100000);
        });
        test("`ticks`: 1 to 200", () -> range(EdgeTest::busy, "pass", 1, 7, 200, 206, (x, ticks) -> x.pass(ticks)));
        test("Returns the true time then; BAD; FULL if it would be above 100000.", () -> {
            due("to the end", late(200).pass(200), 100000);
            due("before the end", late(200).pass(199), 99999);
            refused(() -> late(199), "pass(200), one tick too far", x -> x.pass(200), FULL);
            refused(() -> late(1), "pass(2)", x -> x.pass(2), FULL);
            due("the last tick", late(1).pass(1), 100000);
            refused(() -> late(0), "pass(1) at the end", x -> x.pass(1), FULL);
            refused(() -> late(0), "pass(200) at the end", x -> x.pass(200), FULL);
            for (int ticks : new int[] {0, -1, 201, MIN, MAX}) {
                refused(() -> late(0), "pass(" + ticks + ") at the end", x -> x.pass(ticks), BAD);
            }
        });
    }

    private static void setState() {
        section("Promise 5: setState");
        noEdge("Sets the state of a server.");
        test("A crashed server can become running or paused again.", () -> {
            LeaseCluster x = led();
            x.setState(4, 2);
            due("to paused", x.setState(4, 1), 2);
            due("it is paused", x.setState(4, 2), 1);
            due("to running", x.setState(4, 0), 2);
            x.renew(0, 100);
            due("it is reached", x.reason(4), 0);
        });
        test(SERVER, () -> servers(EdgeTest::busy, "setState", 0, 1, (x, s) -> x.setState(s, 2)));
        test("`state`: 0 running; 1 paused; 2 crashed", () -> {
            range(EdgeTest::busy, "setState", 0, 1, 2, 1, (x, state) -> x.setState(4, state));
            LeaseCluster x = led();
            due("running: holds", x.holds(0), 1);
            x.setState(0, 1);
            due("paused: does not hold, keeps", x.holds(0) + x.known(0, 3), 1);
            x.setState(0, 2);
            due("crashed: loses", x.known(0, 3), NONE);
        });
        test("Returns the previous state; BAD.", () -> {
            for (int before = 0; before <= 2; before++) {
                for (int after = 0; after <= 2; after++) {
                    LeaseCluster x = fresh();
                    x.setState(2, before);
                    due("from " + before + " to " + after, x.setState(2, after), before);
                    due("BAD", x.setState(2, 3), BAD);
                    due("the state then", x.setState(2, after), after);
                }
            }
        });
    }

    private static void setLink() {
        section("Promise 6: setLink");
        noEdge("Mends or cuts a link.");
        test("`a`: a server, 0 to 4", () -> {
            servers(EdgeTest::busy, "setLink(a, 2, true)", 1, 0, (x, a) -> x.setLink(a, 2, true));
            servers(EdgeTest::busy, "setLink(a, 2, false)", 1, 0, (x, a) -> x.setLink(a, 2, false));
        });
        test("`b`: another server", () -> {
            servers(EdgeTest::busy, "setLink(2, b, true)", 1, 0, (x, b) -> x.setLink(2, b, true));
            servers(EdgeTest::busy, "setLink(2, b, false)", 1, 0, (x, b) -> x.setLink(2, b, false));
        });
        test("`up`: whether the link is up from now on", () -> {
            LeaseCluster x = fresh();
            x.setLink(0, 4, false);
            x.acquire(0, 1);
            due("cut", x.reason(4), 1);
            x.setLink(4, 0, true);
            x.acquire(0, 1);
            due("mended", x.reason(4), 0);
        });
        test("Returns 1 if it was up before, 0 if not; BAD, also if both are the same.", () -> {
            LeaseCluster x = fresh();
            due("up, to up", x.setLink(0, 4, true), 1);
            due("up, to cut", x.setLink(0, 4, false), 1);
            due("cut, to cut", x.setLink(4, 0, false), 0);
            due("cut, to up", x.setLink(0, 4, true), 0);
            for (int s : new int[] {0, 1, 2, 3, 4, -1, 5, MIN, MAX}) {
                refused(EdgeTest::busy, "setLink(" + s + ", " + s + ", true)", y -> y.setLink(s, s, true), BAD);
                refused(EdgeTest::busy, "setLink(" + s + ", " + s + ", false)", y -> y.setLink(s, s, false), BAD);
            }
        });
    }

    private static void acquire() {
        section("Promise 7: acquire");
        noEdge("Acquires a lease.");
        test(SERVER, () -> {
            servers(EdgeTest::fresh, "acquire", 1, 1, (x, s) -> x.acquire(s, 1));
            servers(EdgeTest::busy, "acquire", -10, STATE, (x, s) -> x.acquire(s, 1));
        });
        test("`duration`: 1 to 100", () -> {
            range(EdgeTest::fresh, "acquire", 1, 1, 100, 1, (x, duration) -> x.acquire(4, duration));
            range(EdgeTest::busy, "acquire", 1, -10, 100, -10, (x, duration) -> x.acquire(0, duration));
        });
        test("Returns the term of the lease; -10 - n if only n servers granted; BAD;", () -> {
            for (int running = 1; running <= 5; running++) {
                LeaseCluster x = fresh();
                for (int s = running; s < 5; s++) {
                    x.setState(s, 1);
                }
                due(running + " grant", x.acquire(0, 100), running < 3 ? -10 - running : 1);
                due("the term of the lease", x.known(0, 3), running < 3 ? NONE : 1);
            }
            due("none grants", led().acquire(4, 1), -10);
        });
        test("STATE if the server is not running, or holds its lease.", () -> {
            refused(EdgeTest::busy, "acquire by a paused server", x -> x.acquire(4, 1), STATE);
            refused(TimeAndLeaseEdgeTest::withCrashedHolder, "acquire by a crashed server", x -> x.acquire(1, 1), STATE);
            refused(EdgeTest::busy, "acquire by the holder", x -> x.acquire(1, 100), STATE);
            LeaseCluster x = new LeaseCluster(3);
            x.acquire(0, 10);
            x.pass(6);
            due("in the last tick in which it holds it", x.acquire(0, 10), STATE);
            x.pass(1);
            due("after it", x.acquire(0, 10), 2);
        });
    }

    private static LeaseCluster withCrashedHolder() {
        LeaseCluster x = busy();
        x.setState(1, 2);
        return x;
    }

    private static void renew() {
        section("Promise 8: renew");
        noEdge("Renews a lease.");
        test(SERVER, () -> {
            servers(EdgeTest::led, "renew", 100, STATE, (x, s) -> x.renew(s, 1));
            servers(TimeAndLeaseEdgeTest::ledBy4, "renew", STATE, 100, (x, s) -> x.renew(s, 100));
        });
        test("`duration`: 1 to 100", () -> {
            range(EdgeTest::busy, "renew", 1, 65, 100, 105, (x, duration) -> x.renew(1, duration));
            range(EdgeTest::busy, "renew without a lease", 1, STATE, 100, STATE, (x, duration) -> x.renew(0, duration));
        });
        test("Returns the end of the lease then; -10 - n if only n servers granted (then the lease of the server stays"
                + " as it is); BAD;", () -> {
            for (int running = 1; running <= 5; running++) {
                LeaseCluster x = led();
                for (int s = running; s < 5; s++) {
                    x.setState(s, 2);
                }
                x.pass(1);
                due(running + " grant", x.renew(0, 100), running < 3 ? -10 - running : 101);
                due("the end of the lease", x.known(0, 4), running < 3 ? 100 : 101);
                due("its term", x.known(0, 3), 1);
                due("it is held", x.holds(0), 1);
            }
            due("an end that is greater already", led().renew(0, 99), 100);
        });
        test("STATE if the server does not hold its lease.", () -> {
            refused(EdgeTest::fresh, "renew without a lease", x -> x.renew(0, 1), STATE);
            refused(() -> ledUntil(10, 10), "renew at the end", x -> x.renew(0, 1), STATE);
            due("a tick before", ledUntil(10, 9).renew(0, 5), 14);
            LeaseCluster paused = led();
            paused.setState(0, 1);
            due("paused", paused.renew(0, 1), STATE);
            paused.setState(0, 2);
            due("crashed", paused.renew(0, 1), STATE);
        });
    }

    /** Server 0 has a lease until some time, and some ticks have passed. */
    private static LeaseCluster ledUntil(int end, int ticks) {
        LeaseCluster x = new LeaseCluster(0);
        x.acquire(0, end);
        x.pass(ticks);
        return x;
    }

    private static void giveUp() {
        section("Promise 9: giveUp");
        noEdge("Gives up a lease.");
        test(SERVER, () -> {
            servers(EdgeTest::led, "giveUp", 5, STATE, (x, s) -> x.giveUp(s));
            servers(TimeAndLeaseEdgeTest::ledBy4, "giveUp", STATE, 5, (x, s) -> x.giveUp(s));
        });
        test("Returns how many servers lost their promise by this; BAD;", () -> {
            for (int reached = 1; reached <= 5; reached++) {
                LeaseCluster x = led();
                for (int v = reached; v < 5; v++) {
                    x.setLink(0, v, false);
                }
                due(reached + " are reached", x.giveUp(0), reached);
                for (int v = 0; v < 5; v++) {
                    due("the promise of " + v, x.known(v, 1), v < reached ? NONE : 0);
                }
            }
            // 0 leads by the promises of 2, 3 and 4, and has promised 1 a lease itself.
            LeaseCluster none = new LeaseCluster(0);
            state(none, 1, 2, 3, 4);
            none.acquire(1, 50);
            state(none, 0, 2, 3, 4);
            none.acquire(0, 20);
            state(none, 1, 2, 3, 4);
            due("none", none.giveUp(0), 0);
            due("the lease is lost all the same", none.known(0, 3), NONE);
        });
        test("STATE if the server does not hold its lease.", () -> {
            refused(EdgeTest::fresh, "giveUp without a lease", x -> x.giveUp(0), STATE);
            refused(() -> ledUntil(10, 10), "giveUp at the end", x -> x.giveUp(0), STATE);
            due("a tick before", ledUntil(10, 9).giveUp(0), 5);
            LeaseCluster twice = led();
            twice.giveUp(0);
            due("twice", twice.giveUp(0), STATE);
            LeaseCluster paused = led();
            paused.setState(0, 1);
            due("paused", paused.giveUp(0), STATE);
        });
    }

    private static void handOver() {
        section("Promise 10: handOver");
        test("Hands a lease over: the heir is sent the log as in writing (but no entry is appended, and no commitment"
                + " follows); then the server gives up its lease; then the heir acquires one.",
                TimeAndLeaseEdgeTest::threeSteps);
        test(SERVER, () -> {
            servers(EdgeTest::led, "handOver", 2, STATE, (x, s) -> x.handOver(s, 2, 1));
            servers(TimeAndLeaseEdgeTest::ledBy4, "handOver", STATE, 2, (x, s) -> x.handOver(s, 2, 1));
            servers(EdgeTest::busy, "handOver", STATE, STATE, (x, s) -> x.handOver(s, 2, 1));
        });
        test("`heir`: another server", () -> {
            servers(EdgeTest::busy, "handOver", 3, STATE, (x, heir) -> x.handOver(1, heir, 1));
            due("the last server", led().handOver(0, 4, 1), 2);
        });
        test("`duration`: 1 to 100, of the heir's lease", () -> {
            range(EdgeTest::busy, "handOver", 1, 3, 100, 3, (x, duration) -> x.handOver(1, 0, duration));
            LeaseCluster x = led();
            x.handOver(0, 1, 1);
            due("the shortest", x.known(1, 4), 1);
            x.handOver(1, 2, 100);
            due("the longest", x.known(2, 4), 100);
        });
        test("Returns the result of the heir's acquire(); BAD, also if both are the same;", () -> {
            for (int s : new int[] {0, 1, 2, 3, 4, -1, 5, MIN, MAX}) {
                refused(EdgeTest::busy, "handOver(" + s + ", " + s + ", 1)", x -> x.handOver(s, s, 1), BAD);
            }
            for (int cut = 0; cut <= 3; cut++) {
                LeaseCluster x = led();
                for (int v = 0; v < cut; v++) {
                    x.setLink(4, v + 1, false);
                }
                due(5 - cut + " grant", x.handOver(0, 4, 1), cut < 3 ? 2 : -12);
            }
        });
        test("STATE if the server does not hold its lease, does not reach the heir, or the heir's term is greater than"
                + " that of the lease.", TimeAndLeaseEdgeTest::noHandOver);
    }

    private static void threeSteps() {
        LeaseCluster x = led();
        x.write(0, 1, 1);
        state(x, 1, 2, 3, 4);
        due("an entry that is not committed", x.write(0, 1, 2), -12);
        state(x, 0, 2, 3, 4);
        due("handOver(0, 4, 9)", x.handOver(0, 4, 9), 2);
        dueAll("the log of the heir", log(x, 4), 2, 1, 1, 0, 0);
        due("no commitment", x.count(2), 1);
        dueAll("the old holder", known(x, 0), 2, 4, 9, NONE, NONE);
        dueAll("the heir", known(x, 4), 2, 4, 9, 2, 9);
        due("the others have the log that they had", x.log(3, 0), 1);
        // A full log can be handed over: no entry is appended.
        LeaseCluster full = fullLog();
        due("with a full log", full.handOver(0, 1, 9), 2);
        due("its length", full.log(1, 0), 40);
        due("all that 0 knew to be committed", full.log(1, 1), 40);
        LeaseCluster empty = led();
        due("with an empty log", empty.handOver(0, 1, 9), 2);
        due("its length", empty.log(1, 0), 0);
        // The lease is given up even if the heir gets none: 0 reaches only 4, so the rest stays bound to it.
        LeaseCluster lost = led();
        for (int v = 1; v <= 3; v++) {
            lost.setLink(0, v, false);
        }
        due("only two grant", lost.handOver(0, 4, 9), -12);
        dueAll("reasons", reasons(lost), 0, 3, 3, 3, 0);
        due("no lease of 0", lost.known(0, 3), NONE);
        due("no lease of 4", lost.known(4, 3), NONE);
        // A heir that knows of more committed entries keeps its committed length.
        LeaseCluster more = new LeaseCluster(0);
        more.acquire(0, 10);
        more.write(0, 1, 1);
        more.pass(10);
        more.acquire(1, 10);
        due("1 knows of none", more.log(1, 1), 0);
        more.handOver(1, 0, 10);
        due("0 knows of one", more.log(0, 1), 1);
    }

    private static void noHandOver() {
        refused(EdgeTest::fresh, "handOver without a lease", x -> x.handOver(0, 1, 1), STATE);
        refused(() -> ledUntil(10, 10), "handOver at the end", x -> x.handOver(0, 1, 1), STATE);
        due("a tick before", ledUntil(10, 9).handOver(0, 1, 1), 2);
        refused(EdgeTest::busy, "handOver to a paused heir", x -> x.handOver(1, 4, 1), STATE);
        LeaseCluster cut = led();
        cut.setLink(0, 1, false);
        due("the link is cut", cut.handOver(0, 1, 1), STATE);
        due("another link is not", cut.handOver(0, 2, 1), 2);
        refused(TimeAndLeaseEdgeTest::withGreaterTermOf1, "the term of 1 is greater by one", x -> x.handOver(0, 1, 1),
                STATE);
        due("equal terms", led().handOver(0, 1, 1), 2);
        LeaseCluster lower = new LeaseCluster(0);
        lower.setState(1, 2);
        lower.acquire(0, 10);
        lower.setState(1, 0);
        due("the term of 1 is less", lower.handOver(0, 1, 1), 2);
    }

    private static LeaseCluster withGreaterTermOf1() {
        LeaseCluster x = led();
        x.acquire(1, 1);
        return x;
    }

    private static void reason() {
        section("Promise 11: reason");
        test("Returns the reason for the answer of a server in the latest call of acquire(), renew() or handOver() that"
                + " returned no error.", TimeAndLeaseEdgeTest::latestReason);
        test(SERVER, () -> {
            servers(EdgeTest::fresh, "reason", NONE, NONE, (x, s) -> x.reason(s));
            servers(EdgeTest::busy, "reason", 0, 0, (x, s) -> x.reason(s));
        });
        test("Returns the reason, 0 to 4; BAD; NONE if there was no such call.", () -> {
            for (int s = 0; s < 5; s++) {
                due("no call", fresh().reason(s), NONE);
            }
            LeaseCluster x = fresh();
            x.acquire(5, 1);
            x.acquire(0, 0);
            x.renew(0, 1);
            x.handOver(0, 1, 1);
            x.giveUp(0);
            dueAll("only errors", reasons(x), NONE, NONE, NONE, NONE, NONE);
            x.acquire(0, 10);
            dueAll("the least", reasons(x), 0, 0, 0, 0, 0);
            // 4 has only itself and a log that is too old.
            LeaseCluster y = new LeaseCluster(0);
            y.setState(4, 1);
            y.acquire(0, 5);
            y.write(0, 0, 0);
            y.pass(5);
            y.setState(4, 0);
            y.acquire(4, 1);
            y.acquire(4, 1);
            dueAll("the greatest", reasons(y), 4, 4, 4, 4, 0);
        });
    }

    private static void latestReason() {
        LeaseCluster x = led();
        x.setState(4, 1);
        due("a call without a majority counts", x.acquire(1, 1), -10);
        dueAll("acquire", reasons(x), 3, 3, 3, 3, 1);
        x.acquire(0, 1);
        x.acquire(4, 1);
        x.acquire(1, 101);
        x.renew(1, 1);
        x.handOver(0, 1, 1);
        dueAll("errors do not count", reasons(x), 3, 3, 3, 3, 1);
        x.renew(0, 1);
        dueAll("renew", reasons(x), 0, 2, 0, 0, 1);
        x.handOver(0, 2, 1);
        dueAll("handOver: the acquire() of the heir", reasons(x), 0, 2, 0, 0, 1);
        x.giveUp(2);
        x.write(2, 0, 0);
        x.setState(4, 0);
        dueAll("other calls leave it", reasons(x), 0, 2, 0, 0, 1);
        typed(x, "a3 1;").run();
        // 4 was not reached when 0 gave up its lease.
        dueAll("a call of a scenario", reasons(x), 0, 0, 0, 0, 3);
    }

    private static void holds() {
        section("Promise 12: holds");
        noEdge("Tells whether a server holds its lease.");
        test(SERVER, () -> {
            servers(EdgeTest::led, "holds", 1, 0, (x, s) -> x.holds(s));
            servers(TimeAndLeaseEdgeTest::ledBy4, "holds", 0, 1, (x, s) -> x.holds(s));
        });
        test("Returns 1 if it does, 0 if not; BAD.", () -> {
            due("a tick before the end", ledUntil(10, 9).holds(0), 1);
            due("at the end", ledUntil(10, 10).holds(0), 0);
            due("after it", ledUntil(10, 11).holds(0), 0);
            LeaseCluster x = new LeaseCluster(20);
            x.acquire(0, 20);
            due("as short as the doubt", x.holds(0), 0);
            LeaseCluster y = new LeaseCluster(20);
            y.acquire(0, 21);
            due("a tick longer", y.holds(0), 1);
            due("others", y.holds(1), 0);
        });
    }

    private static void known() {
        section("Promise 13: known");
        noEdge("Returns something that a server knows about leases.");
        test(SERVER, () -> servers(EdgeTest::busy, "known", 2, 2, (x, s) -> x.known(s, 0)));
        test("`what`: 0: its term; 1: the holder, 2: the end of its promise (NONE without a promise); 3: the term, 4:"
                + " the end of its lease (NONE without a lease)", () -> {
            range(EdgeTest::busy, "known", 0, 2, 4, 65, (x, what) -> x.known(1, what));
            dueAll("of the holder", known(busy(), 1), 2, 1, 65, 2, 65);
            dueAll("of another", known(busy(), 0), 2, 1, 65, NONE, NONE);
            dueAll("at first", known(fresh(), 4), 0, NONE, NONE, NONE, NONE);
        });
        test("Returns the number; BAD.", () -> {
            LeaseCluster x = new LeaseCluster(20);
            x.setClock(0, -20);
            x.acquire(0, 1);
            dueAll("an end below 0", known(x, 4), 1, 0, -19, NONE, NONE);
            dueAll("of a lease, too", known(x, 0), 1, 0, -19, 1, -19);
            LeaseCluster zero = new LeaseCluster(20);
            zero.setClock(0, -20);
            zero.acquire(0, 20);
            dueAll("an end of 0", known(zero, 0), 1, 0, 0, 1, 0);
        });
    }
}
