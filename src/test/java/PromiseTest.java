import java.util.function.LongSupplier;

/** For each promise of the document: ordinary inputs, the edges that it names, and wrong inputs. */
public final class PromiseTest {
    private static final int NONE = -1000, BAD = -1001, STATE = -1002, FULL = -1003;
    private static final int MIN = Integer.MIN_VALUE, MAX = Integer.MAX_VALUE;
    private static final int[] NO_SERVERS = {-1, 5, MIN, MAX};

    private static int wrong = 0;
    private static int checks = 0;
    private static int promise = 0;

    private static void due(String call, long got, long want) {
        checks++;
        if (got != want) {
            wrong++;
            System.out.println("promise " + promise + ": " + call + " answered " + got + ", due is " + want);
        }
    }

    /** A call that returns an error changes nothing. */
    private static void error(LeaseCluster x, String call, LongSupplier made, int want) {
        long before = x.digest();
        due(call, made.getAsLong(), want);
        due("the digest after " + call, x.digest(), before);
    }

    private static void typeText(LeaseCluster x, String text) {
        for (int i = 0; i < text.length(); i++) {
            x.type(text.charAt(i));
        }
    }

    /** What run() answers to a text, on a new object. */
    private static int runOf(String text) {
        LeaseCluster x = new LeaseCluster(0);
        typeText(x, text);
        return x.run();
    }

    /** Cuts a server off from all others, or mends its links. */
    private static void setAllLinks(LeaseCluster x, int server, boolean up) {
        for (int v = 0; v < 5; v++) {
            if (v != server) {
                x.setLink(server, v, up);
            }
        }
    }

    public static void main(String[] args) {
        Runnable[] tests = {PromiseTest::newObject, PromiseTest::setClock, PromiseTest::clock, PromiseTest::pass,
            PromiseTest::setState, PromiseTest::setLink, PromiseTest::acquire, PromiseTest::renew,
            PromiseTest::giveUp, PromiseTest::handOver, PromiseTest::reason, PromiseTest::holds,
            PromiseTest::known, PromiseTest::write, PromiseTest::barrier, PromiseTest::read, PromiseTest::readAt,
            PromiseTest::log, PromiseTest::entry, PromiseTest::agreement, PromiseTest::history,
            PromiseTest::acknowledgement, PromiseTest::send, PromiseTest::deliver, PromiseTest::cell,
            PromiseTest::safeFor, PromiseTest::waitFor, PromiseTest::leastCrashes, PromiseTest::staleKeys,
            PromiseTest::isSafe, PromiseTest::type, PromiseTest::clear, PromiseTest::run, PromiseTest::result,
            PromiseTest::save, PromiseTest::restore, PromiseTest::count, PromiseTest::digest};
        for (int i = 0; i < tests.length; i++) {
            promise = i + 1;
            tests[i].run();
        }
        System.out.println(checks + " checks of " + tests.length + " promises, " + wrong + " wrong");
        if (wrong != 0) {
            System.exit(1);
        }
    }

    private static void newObject() {
        int[][] doubts = {{-1, 0}, {0, 0}, {1, 1}, {20, 20}, {21, 20}, {MIN, 0}, {MAX, 20}};
        for (int[] pair : doubts) {
            due("new " + pair[0], new LeaseCluster(pair[0]).count(1), pair[1]);
        }
        LeaseCluster x = new LeaseCluster(3);
        due("time", x.count(0), 0);
        for (int what = 2; what <= 9; what++) {
            due("count(" + what + ")", x.count(what), 0);
        }
        due("links", x.count(10), 10);
        for (int s = 0; s < 5; s++) {
            due("clock", x.clock(s, 0), 0);
            due("holds", x.holds(s), 0);
            due("term", x.known(s, 0), 0);
            for (int what = 1; what <= 4; what++) {
                due("known", x.known(s, what), NONE);
            }
            due("entries", x.log(s, 0), 0);
            due("reason", x.reason(s), NONE);
            due("state", x.setState(s, 0), 0);
        }
        for (int c = 0; c < 4; c++) {
            due("value", x.cell(c, 0), 0);
            due("token", x.cell(c, 1), 0);
        }
        due("restore(0)", x.restore(0), STATE);
        due("restore(1)", x.restore(1), STATE);
        due("run()", x.run(), 0);
    }

    private static void setClock() {
        LeaseCluster x = new LeaseCluster(5);
        due("first", x.setClock(2, -5), 0);
        due("second", x.setClock(2, 5), -5);
        due("third", x.setClock(2, 0), 5);
        for (int s : NO_SERVERS) {
            error(x, "setClock(" + s + ", 0)", () -> x.setClock(s, 0), BAD);
        }
        for (int offset : new int[] {-6, 6, MIN, MAX}) {
            error(x, "setClock(0, " + offset + ")", () -> x.setClock(0, offset), BAD);
        }
        LeaseCluster exact = new LeaseCluster(0);
        due("no doubt", exact.setClock(4, 0), 0);
        error(exact, "no doubt, 1", () -> exact.setClock(4, 1), BAD);
        error(exact, "no doubt, -1", () -> exact.setClock(4, -1), BAD);
    }

    private static void clock() {
        LeaseCluster x = new LeaseCluster(4);
        x.setClock(1, -3);
        x.pass(10);
        due("reading", x.clock(1, 0), 7);
        due("earliest", x.clock(1, 1), 3);
        due("latest", x.clock(1, 2), 11);
        due("reading of 0", x.clock(0, 0), 10);
        x.setState(1, 2);
        due("reading when crashed", x.clock(1, 0), 7);
        for (int s : NO_SERVERS) {
            due("clock of " + s, x.clock(s, 0), BAD);
        }
        for (int what : new int[] {-1, 3, MIN, MAX}) {
            due("clock what " + what, x.clock(0, what), BAD);
        }
    }

    private static void pass() {
        LeaseCluster x = new LeaseCluster(1);
        x.acquire(2, 100);
        x.write(2, 0, 5);
        x.write(2, 0, 6);
        // Timestamps 1 and 2: given when the earliest time, the true time less 1, is above them.
        due("pass(2)", x.pass(2), 2);
        due("none yet", x.count(4), 0);
        due("pass(200)", x.pass(200), 202);
        due("both", x.count(4), 2);
        due("time of the first", x.acknowledgement(0, 3), 3);
        due("time of the second", x.acknowledgement(1, 3), 4);
        for (int ticks : new int[] {0, -1, 201, MIN, MAX}) {
            error(x, "pass(" + ticks + ")", () -> x.pass(ticks), BAD);
        }
        LeaseCluster y = new LeaseCluster(0);
        for (int i = 0; i < 499; i++) {
            y.pass(200);
        }
        due("time", y.count(0), 99800);
        due("pass(199)", y.pass(199), 99999);
        error(y, "pass(2) beyond the end", () -> y.pass(2), FULL);
        error(y, "pass(201) beyond the end", () -> y.pass(201), BAD);
        due("the last tick", y.pass(1), 100000);
        error(y, "pass(1) at the end", () -> y.pass(1), FULL);
    }

    private static void setState() {
        LeaseCluster x = new LeaseCluster(2);
        x.acquire(1, 50);
        x.write(1, 3, 30);
        due("pause", x.setState(1, 1), 0);
        due("a paused server holds nothing", x.holds(1), 0);
        due("but keeps its lease", x.known(1, 4), 50);
        due("and what it owes", x.log(1, 4), 1);
        x.pass(20);
        due("a paused server gives nothing", x.count(4), 0);
        due("run again", x.setState(1, 0), 1);
        due("holds again", x.holds(1), 1);
        x.pass(1);
        due("gives at the next tick", x.acknowledgement(0, 3), 21);
        x.write(1, 3, 31);
        due("crash", x.setState(1, 2), 0);
        due("lease lost: term", x.known(1, 3), NONE);
        due("lease lost: end", x.known(1, 4), NONE);
        due("owes nothing", x.log(1, 4), 0);
        due("keeps its promise", x.known(1, 1), 1);
        due("keeps the promise's end", x.known(1, 2), 50);
        due("keeps its term", x.known(1, 0), 1);
        due("keeps its log", x.log(1, 0), 2);
        due("keeps its committed length", x.log(1, 1), 2);
        due("crashed to paused", x.setState(1, 1), 2);
        due("paused to crashed", x.setState(1, 2), 1);
        due("crashed again", x.setState(1, 2), 2);
        due("crashed to running", x.setState(1, 0), 2);
        due("no lease any more", x.holds(1), 0);
        for (int s : NO_SERVERS) {
            error(x, "setState(" + s + ", 0)", () -> x.setState(s, 0), BAD);
        }
        for (int state : new int[] {-1, 3, MIN, MAX}) {
            error(x, "setState(0, " + state + ")", () -> x.setState(0, state), BAD);
        }
    }

    private static void setLink() {
        LeaseCluster x = new LeaseCluster(0);
        due("cut", x.setLink(3, 1, false), 1);
        due("cut again, from the other end", x.setLink(1, 3, false), 0);
        due("links", x.count(10), 9);
        x.acquire(1, 10);
        due("3 is unreached", x.reason(3), 1);
        due("mend", x.setLink(1, 3, true), 0);
        due("mend again", x.setLink(3, 1, true), 1);
        due("links", x.count(10), 10);
        for (boolean up : new boolean[] {true, false}) {
            for (int s : NO_SERVERS) {
                error(x, "setLink(" + s + ", 0)", () -> x.setLink(s, 0, up), BAD);
                error(x, "setLink(0, " + s + ")", () -> x.setLink(0, s, up), BAD);
                error(x, "setLink(" + s + ", " + s + ")", () -> x.setLink(s, s, up), BAD);
            }
            error(x, "setLink(2, 2)", () -> x.setLink(2, 2, up), BAD);
        }
    }

    private static void acquire() {
        LeaseCluster x = new LeaseCluster(1);
        x.setClock(3, -1);
        due("acquire(3, 100)", x.acquire(3, 100), 1);
        due("its end is counted from the reading", x.known(3, 4), 99);
        error(x, "acquire by the holder", () -> x.acquire(3, 10), STATE);
        due("acquire by another", x.acquire(0, 10), -10);
        due("its term stays higher", x.known(0, 0), 2);
        due("others' terms do not", x.known(1, 0), 1);
        x.setState(2, 1);
        error(x, "acquire by a paused server", () -> x.acquire(2, 10), STATE);
        x.setState(2, 2);
        error(x, "acquire by a crashed server", () -> x.acquire(2, 10), STATE);
        for (int s : NO_SERVERS) {
            error(x, "acquire(" + s + ", 1)", () -> x.acquire(s, 1), BAD);
        }
        for (int duration : new int[] {0, -1, 101, MIN, MAX}) {
            error(x, "acquire(2, " + duration + ")", () -> x.acquire(2, duration), BAD);
        }
        acquireByTerms();
        acquireByLogs();
        acquireWithoutMajority();
        acquireUnheld();
    }

    private static void acquireByTerms() {
        LeaseCluster x = new LeaseCluster(0);
        setAllLinks(x, 4, false);
        for (int i = 0; i < 3; i++) {
            due("alone", x.acquire(4, 1), -11);
        }
        x.pass(1);
        setAllLinks(x, 4, true);
        // 4 has the term 3, and refuses the term 1, which the other four grant.
        due("acquire(0, 5)", x.acquire(0, 5), 1);
        due("4 refuses", x.reason(4), 2);
        due("the term of 0 becomes that of 4", x.known(0, 0), 3);
        due("its lease has the term asked for", x.known(0, 3), 1);
        due("3 granted the term 1", x.known(3, 0), 1);
        x.giveUp(0);
        due("the next term is above that of 4", x.acquire(0, 5), 4);
        due("4 grants", x.known(4, 0), 4);
        // An equal term of another server refuses as well, and changes nothing.
        LeaseCluster y = new LeaseCluster(0);
        setAllLinks(y, 4, false);
        y.acquire(4, 1);
        y.pass(1);
        setAllLinks(y, 4, true);
        due("equal terms", y.acquire(3, 9), 1);
        due("the equal term refuses", y.reason(4), 2);
        due("4 was asked last, after 3 granted itself", y.known(3, 1), 3);
        due("terms", y.known(3, 0), 1);
        // A server that was asked before the term grew keeps the higher term when it grants itself.
        LeaseCluster z = new LeaseCluster(0);
        setAllLinks(z, 0, false);
        z.acquire(0, 1);
        z.acquire(0, 1);
        z.pass(1);
        setAllLinks(z, 0, true);
        due("acquire(2, 9)", z.acquire(2, 9), 1);
        due("2 grants itself", z.reason(2), 0);
        due("and keeps the term of 0", z.known(2, 0), 2);
        due("while the lease has its own", z.known(2, 3), 1);
    }

    private static void acquireByLogs() {
        LeaseCluster x = new LeaseCluster(0);
        setAllLinks(x, 4, false);
        x.acquire(0, 5);
        x.write(0, 1, 1);
        x.pass(5);
        setAllLinks(x, 4, true);
        x.acquire(4, 5);
        x.pass(5);
        due("the log of 4 is too old", x.acquire(4, 5), -11);
        due("reason of 0", x.reason(0), 4);
        due("reason of 4", x.reason(4), 0);
        due("an equal log is recent enough", x.acquire(1, 5), 2);
        due("reason of 0", x.reason(0), 0);
        due("4 has the same term", x.reason(4), 2);
    }

    private static void acquireWithoutMajority() {
        LeaseCluster x = new LeaseCluster(0);
        x.acquire(0, 10);
        x.pass(10);
        due("the lease that is not held stays", x.known(0, 4), 10);
        x.setState(2, 2);
        x.setState(3, 2);
        x.setState(4, 1);
        due("only two grant", x.acquire(0, 20), -12);
        due("no lease any more", x.known(0, 4), NONE);
        due("the promise stays", x.known(1, 2), 30);
        due("its holder", x.known(1, 1), 0);
        due("the term grew", x.known(0, 0), 2);
        x.setState(4, 0);
        due("three grant", x.acquire(0, 5), 3);
        due("a new promise to the same holder replaces a longer one", x.known(1, 2), 15);
    }

    private static void acquireUnheld() {
        LeaseCluster x = new LeaseCluster(20);
        x.setClock(1, -20);
        due("a lease that ends too early", x.acquire(1, 1), 1);
        due("its end", x.known(1, 4), -19);
        due("is not held", x.holds(1), 0);
        due("can be acquired again", x.acquire(1, 100), 2);
        due("is held", x.holds(1), 1);
        // For a promise the earliest time of the server that gave it counts.
        LeaseCluster y = new LeaseCluster(5);
        y.acquire(0, 10);
        y.setClock(1, 5);
        y.setClock(2, 5);
        y.setClock(3, 4);
        y.pass(10);
        due("two are free at 10, one is not", y.acquire(1, 10), -12);
        due("3 is bound", y.reason(3), 3);
        due("2 is free", y.reason(2), 0);
        y.pass(1);
        due("at 11 three are free", y.acquire(1, 10), 3);
    }

    private static void renew() {
        LeaseCluster x = new LeaseCluster(2);
        error(x, "renew without a lease", () -> x.renew(0, 10), STATE);
        x.acquire(0, 30);
        x.pass(5);
        due("renew(0, 30)", x.renew(0, 30), 35);
        due("the promise", x.known(4, 2), 35);
        due("a shorter one changes no end", x.renew(0, 1), 35);
        due("the promise stays", x.known(4, 2), 35);
        due("reason", x.reason(4), 0);
        x.setState(2, 2);
        x.setState(3, 2);
        x.setState(4, 2);
        due("no majority", x.renew(0, 100), -12);
        due("the lease stays as it is", x.known(0, 4), 35);
        due("the promises are longer", x.known(1, 2), 105);
        due("unreached", x.reason(2), 1);
        x.pass(27);
        due("held up to the last tick", x.renew(0, 1), -12);
        x.pass(1);
        error(x, "renew a lease that is over", () -> x.renew(0, 10), STATE);
        for (int s : NO_SERVERS) {
            error(x, "renew(" + s + ", 1)", () -> x.renew(s, 1), BAD);
        }
        for (int duration : new int[] {0, -1, 101, MIN, MAX}) {
            error(x, "renew(0, " + duration + ")", () -> x.renew(0, duration), BAD);
        }
        renewByTerms();
        renewByPromisesAndLogs();
    }

    private static void renewByTerms() {
        LeaseCluster x = new LeaseCluster(0);
        x.acquire(0, 50);
        x.acquire(1, 50);
        due("1 has a greater term", x.renew(0, 60), 60);
        due("and refuses", x.reason(1), 2);
        due("its promise stays", x.known(1, 2), 50);
        due("the term of 0 does not change", x.known(0, 0), 1);
        // A term of the holder itself that is greater than that of its lease refuses, too.
        LeaseCluster y = new LeaseCluster(0);
        setAllLinks(y, 4, false);
        y.acquire(4, 1);
        y.acquire(4, 1);
        y.pass(1);
        setAllLinks(y, 4, true);
        due("acquire(0, 20)", y.acquire(0, 20), 1);
        due("the others are enough", y.renew(0, 30), 31);
        due("0 refuses itself", y.reason(0), 2);
        due("4 refuses", y.reason(4), 2);
        due("its own promise stays", y.known(0, 2), 21);
        due("1 grants", y.known(1, 2), 31);
        y.setState(1, 1);
        due("two are not", y.renew(0, 30), -12);
    }

    private static void renewByPromisesAndLogs() {
        // 4 promises itself while it is cut off, so it refuses 0 by its promise until that ends.
        LeaseCluster x = new LeaseCluster(0);
        setAllLinks(x, 4, false);
        x.acquire(4, 10);
        x.acquire(0, 50);
        setAllLinks(x, 4, true);
        x.renew(0, 50);
        due("4 is bound", x.reason(4), 3);
        x.pass(10);
        x.renew(0, 50);
        due("4 is free", x.reason(4), 0);
        due("and gets the holder 0", x.known(4, 1), 0);
        due("and the end", x.known(4, 2), 60);
        // 0 writes alone; 1, with a shorter log, is elected by the others and asks 0.
        LeaseCluster y = new LeaseCluster(0);
        y.acquire(0, 10);
        setAllLinks(y, 0, false);
        due("alone", y.write(0, 1, 1), -11);
        y.pass(10);
        due("acquire(1, 50)", y.acquire(1, 50), 2);
        setAllLinks(y, 0, true);
        y.renew(1, 50);
        due("the log of 0 refuses", y.reason(0), 4);
        // 2 promises 1 a lease, then gets an entry of 0 that 1 never sees: for renew() its promise is enough.
        LeaseCluster z = new LeaseCluster(0);
        z.acquire(1, 10);
        z.pass(10);
        z.setLink(0, 2, false);
        due("acquire(0, 5)", z.acquire(0, 5), 2);
        setAllLinks(z, 0, false);
        z.setLink(0, 2, true);
        due("only 2 agrees", z.write(0, 1, 1), -12);
        z.pass(5);
        setAllLinks(z, 0, true);
        due("1, 3 and 4 grant", z.acquire(1, 50), 3);
        due("the log of 2 refuses in acquire()", z.reason(2), 4);
        due("renew(1, 60)", z.renew(1, 60), 75);
        due("that of 0 refuses in renew()", z.reason(0), 4);
        due("that of 2 does not", z.reason(2), 0);
        due("the promise of 2", z.known(2, 2), 75);
        due("its term", z.known(2, 0), 3);
    }

    private static void giveUp() {
        LeaseCluster x = new LeaseCluster(1);
        error(x, "giveUp without a lease", () -> x.giveUp(2), STATE);
        x.acquire(2, 40);
        x.setState(0, 1);
        x.setLink(2, 4, false);
        due("giveUp(2)", x.giveUp(2), 3);
        due("no lease: term", x.known(2, 3), NONE);
        due("no lease: end", x.known(2, 4), NONE);
        due("no promise: holder", x.known(1, 1), NONE);
        due("no promise: end", x.known(1, 2), NONE);
        due("the unreached keep theirs", x.known(4, 1), 2);
        due("the paused, too", x.known(0, 2), 40);
        due("the term stays", x.known(2, 0), 1);
        due("another can acquire one", x.acquire(3, 40), 2);
        due("4 is still bound", x.reason(4), 3);
        due("promises to others stay: 3 has a promise of 1, 2 and 3", x.giveUp(3), 3);
        error(x, "giveUp twice", () -> x.giveUp(3), STATE);
        for (int s : NO_SERVERS) {
            error(x, "giveUp(" + s + ")", () -> x.giveUp(s), BAD);
        }
        LeaseCluster y = new LeaseCluster(1);
        y.acquire(0, 10);
        y.pass(9);
        error(y, "giveUp of a lease that is not held", () -> y.giveUp(0), STATE);
        due("it stays", y.known(0, 4), 10);
    }

    private static void handOver() {
        LeaseCluster x = new LeaseCluster(1);
        x.acquire(0, 50);
        setAllLinks(x, 3, false);
        x.write(0, 2, 7);
        x.setState(1, 2);
        x.setState(4, 2);
        due("an entry that is not committed", x.write(0, 2, 8), -12);
        x.setState(1, 0);
        x.setState(4, 0);
        x.setLink(0, 3, true);
        x.setLink(2, 3, true);
        // 1 and 4 have one entry, 3 gets both; 3 reaches 0 and 2 and itself.
        due("handOver(0, 3, 20)", x.handOver(0, 3, 20), 2);
        due("3 has the log", x.log(3, 0), 2);
        due("committed as by 0", x.log(3, 1), 1);
        due("nothing more is committed", x.count(2), 1);
        due("nothing more is owed", x.log(3, 4), 0);
        due("0 has no lease", x.known(0, 3), NONE);
        due("3 holds", x.count(9), 8);
        due("its end", x.known(3, 4), 20);
        due("reason of 1", x.reason(1), 1);
        due("1 lost its promise", x.known(1, 1), NONE);
        due("2 has promised 3", x.known(2, 1), 3);
        error(x, "handOver by the old one", () -> x.handOver(0, 3, 20), STATE);
        error(x, "to an unreached heir", () -> x.handOver(3, 1, 20), STATE);
        error(x, "to itself", () -> x.handOver(3, 3, 20), BAD);
        for (int s : NO_SERVERS) {
            error(x, "handOver(" + s + ", 2, 1)", () -> x.handOver(s, 2, 1), BAD);
            error(x, "handOver(3, " + s + ", 1)", () -> x.handOver(3, s, 1), BAD);
        }
        for (int duration : new int[] {0, -1, 101, MIN, MAX}) {
            error(x, "handOver(3, 2, " + duration + ")", () -> x.handOver(3, 2, duration), BAD);
        }
        x.setState(2, 1);
        error(x, "to a paused heir", () -> x.handOver(3, 2, 1), STATE);
        handOverByTerms();
    }

    private static void handOverByTerms() {
        LeaseCluster x = new LeaseCluster(0);
        x.acquire(0, 50);
        x.acquire(1, 50);
        error(x, "the heir's term is greater", () -> x.handOver(0, 1, 20), STATE);
        due("1 refuses the next term, but a majority grants", x.handOver(0, 2, 20), 2);
        due("reason of 1", x.reason(1), 2);
        // Servers that the old holder does not reach keep their promise to it, and refuse the heir.
        LeaseCluster y = new LeaseCluster(0);
        y.acquire(0, 50);
        y.setLink(0, 1, false);
        y.setLink(0, 2, false);
        y.setLink(0, 3, false);
        due("only two grant", y.handOver(0, 4, 20), -12);
        due("3 is bound to 0", y.reason(3), 3);
        due("0 lost its lease all the same", y.known(0, 3), NONE);
        due("4 has none", y.known(4, 3), NONE);
    }

    private static void reason() {
        LeaseCluster x = new LeaseCluster(0);
        for (int s : NO_SERVERS) {
            due("reason(" + s + ") at first", x.reason(s), BAD);
        }
        x.acquire(0, 0);
        due("no call without an error", x.reason(0), NONE);
        x.setState(4, 2);
        x.acquire(0, 10);
        due("granted", x.reason(0), 0);
        due("unreached", x.reason(4), 1);
        x.acquire(0, 10);
        x.renew(1, 10);
        x.handOver(1, 2, 10);
        due("errors leave it: 0", x.reason(0), 0);
        due("errors leave it: 4", x.reason(4), 1);
        x.acquire(1, 10);
        due("promise", x.reason(0), 3);
        x.setState(4, 0);
        x.renew(0, 10);
        due("renew: granted", x.reason(4), 0);
        due("renew: term", x.reason(1), 2);
        x.handOver(0, 2, 10);
        due("handOver: granted", x.reason(0), 0);
        due("handOver: term", x.reason(1), 2);
        x.giveUp(2);
        due("giveUp leaves it", x.reason(1), 2);
        for (int s : NO_SERVERS) {
            due("reason(" + s + ")", x.reason(s), BAD);
        }
    }

    private static void holds() {
        LeaseCluster x = new LeaseCluster(3);
        x.acquire(4, 10);
        due("at first", x.holds(4), 1);
        due("others", x.holds(3), 0);
        x.pass(6);
        due("latest time 9, end 10", x.holds(4), 1);
        x.pass(1);
        due("latest time 10, end 10", x.holds(4), 0);
        x.setClock(4, -1);
        due("latest time 9 again", x.holds(4), 1);
        x.setState(4, 1);
        due("paused", x.holds(4), 0);
        x.setState(4, 0);
        due("running", x.holds(4), 1);
        for (int s : NO_SERVERS) {
            due("holds(" + s + ")", x.holds(s), BAD);
        }
    }

    private static void known() {
        LeaseCluster x = new LeaseCluster(0);
        x.pass(7);
        x.setState(3, 2);
        x.acquire(1, 30);
        int[] ofHolder = {1, 1, 37, 1, 37};
        int[] ofOther = {1, 1, 37, NONE, NONE};
        int[] ofCrashed = {0, NONE, NONE, NONE, NONE};
        for (int what = 0; what <= 4; what++) {
            due("known(1, " + what + ")", x.known(1, what), ofHolder[what]);
            due("known(0, " + what + ")", x.known(0, what), ofOther[what]);
            due("known(3, " + what + ")", x.known(3, what), ofCrashed[what]);
        }
        x.pass(30);
        due("a lease that is not held stays", x.known(1, 3), 1);
        due("and a promise that is over", x.known(0, 1), 1);
        for (int s : NO_SERVERS) {
            due("known(" + s + ", 0)", x.known(s, 0), BAD);
        }
        for (int what : new int[] {-1, 5, MIN, MAX}) {
            due("known(0, " + what + ")", x.known(0, what), BAD);
        }
    }

    private static void write() {
        LeaseCluster x = new LeaseCluster(2);
        error(x, "write without a lease", () -> x.write(0, 0, 0), STATE);
        x.acquire(0, 100);
        due("write(0, 7, 999)", x.write(0, 7, 999), 0);
        due("timestamp", x.entry(0, 0, 3), 2);
        due("write(0, 0, 0)", x.write(0, 0, 0), 1);
        due("the next timestamp", x.entry(0, 1, 3), 3);
        x.pass(10);
        x.write(0, 0, 1);
        due("the latest time", x.entry(0, 2, 3), 12);
        x.setClock(0, -2);
        x.write(0, 0, 1);
        due("not less than before", x.entry(0, 3, 3), 13);
        due("committed", x.log(0, 1), 4);
        due("of others", x.log(4, 1), 3);
        for (int s : NO_SERVERS) {
            error(x, "write(" + s + ", 0, 0)", () -> x.write(s, 0, 0), BAD);
        }
        for (int key : new int[] {-1, 8, MIN, MAX}) {
            error(x, "write(0, " + key + ", 0)", () -> x.write(0, key, 0), BAD);
        }
        for (int value : new int[] {-1, 1000, MIN, MAX}) {
            error(x, "write(0, 0, " + value + ")", () -> x.write(0, 0, value), BAD);
            error(x, "write(1, 0, " + value + ")", () -> x.write(1, 0, value), BAD);
        }
        writeToFew();
        writeUntilFull();
    }

    private static void writeToFew() {
        LeaseCluster x = new LeaseCluster(0);
        x.acquire(0, 50);
        x.acquire(1, 50);
        due("1 does not agree, its term is greater", x.write(0, 0, 5), 0);
        due("its log stays", x.log(1, 0), 0);
        x.setState(2, 1);
        due("3 and 4 agree", x.write(0, 0, 6), 1);
        x.setLink(0, 3, false);
        due("only 4 agrees", x.write(0, 0, 7), -12);
        due("the entry stays", x.log(0, 0), 3);
        due("also in 4", x.log(4, 0), 3);
        due("4 knows what was committed before", x.log(4, 1), 2);
        due("it is not committed", x.log(0, 1), 2);
        due("nothing is owed for it", x.log(0, 4), 2);
        x.setState(4, 2);
        due("nobody agrees", x.write(0, 0, 8), -11);
        x.setState(4, 0);
        x.setLink(0, 3, true);
        due("all is committed", x.write(0, 0, 9), 4);
        due("the whole log", x.log(0, 1), 5);
        due("one more is owed", x.log(0, 4), 3);
        due("the history", x.count(2), 5);
        // A later leader without an entry that was not committed replaces it, and raises the terms.
        LeaseCluster y = new LeaseCluster(0);
        y.acquire(0, 10);
        setAllLinks(y, 0, false);
        y.write(0, 1, 1);
        y.write(0, 1, 2);
        y.pass(10);
        y.acquire(1, 10);
        setAllLinks(y, 0, true);
        due("write(1, 2, 3)", y.write(1, 2, 3), 0);
        due("the log of 0 is replaced", y.log(0, 0), 1);
        due("its key", y.entry(0, 0, 1), 2);
        due("its term", y.known(0, 0), 2);
        // A follower that knows of more committed entries than the leader keeps its committed length.
        LeaseCluster z = new LeaseCluster(0);
        z.acquire(0, 10);
        z.write(0, 1, 1);
        z.pass(10);
        z.acquire(1, 10);
        z.setState(2, 2);
        z.setState(3, 2);
        z.setState(4, 2);
        due("only 0 agrees", z.write(1, 1, 2), -12);
        due("the committed length of 0", z.log(0, 1), 1);
        due("that of 1", z.log(1, 1), 0);
        due("the log of 0", z.log(0, 0), 2);
    }

    private static void writeUntilFull() {
        LeaseCluster x = new LeaseCluster(0);
        x.acquire(2, 100);
        for (int i = 0; i < 40; i++) {
            due("write", x.write(2, i % 8, i), i);
        }
        error(x, "the 41st entry", () -> x.write(2, 0, 0), FULL);
        error(x, "the 41st entry, a barrier", () -> x.barrier(2), FULL);
        error(x, "BAD comes first", () -> x.write(2, 8, 0), BAD);
        error(x, "STATE comes before FULL", () -> x.write(1, 0, 0), STATE);
        due("owed", x.log(2, 4), 40);
        x.pass(100);
        due("given", x.count(4), 40);
        due("in order", x.acknowledgement(39, 1), 39);
    }

    private static void barrier() {
        LeaseCluster x = new LeaseCluster(1);
        error(x, "barrier without a lease", () -> x.barrier(3), STATE);
        x.acquire(3, 20);
        due("barrier(3)", x.barrier(3), 0);
        due("key", x.entry(3, 0, 1), NONE);
        due("value", x.entry(3, 0, 2), NONE);
        due("term", x.entry(3, 0, 0), 1);
        due("timestamp", x.entry(3, 0, 3), 1);
        due("owed", x.log(3, 4), 1);
        due("history", x.count(2), 1);
        x.setState(0, 2);
        x.setState(1, 2);
        x.setState(2, 2);
        due("only two agree", x.barrier(3), -12);
        x.setState(4, 2);
        due("only one agrees", x.barrier(3), -11);
        x.pass(18);
        due("still held", x.barrier(3), -11);
        x.pass(1);
        error(x, "barrier after the lease", () -> x.barrier(3), STATE);
        for (int s : NO_SERVERS) {
            error(x, "barrier(" + s + ")", () -> x.barrier(s), BAD);
        }
    }

    private static void read() {
        LeaseCluster x = new LeaseCluster(0);
        x.acquire(0, 10);
        error(x, "nothing is committed", () -> x.read(0, 1), STATE);
        x.write(0, 1, 5);
        x.write(0, 1, 6);
        x.write(0, 2, 7);
        due("the last value", x.read(0, 1), 6);
        due("another key", x.read(0, 2), 7);
        due("no such key", x.read(0, 3), NONE);
        error(x, "not the leader", () -> x.read(1, 1), STATE);
        x.setState(2, 2);
        x.setState(3, 2);
        x.setState(4, 2);
        x.write(0, 1, 8);
        due("what is not committed is not read", x.read(0, 1), 6);
        x.setState(2, 0);
        x.setState(3, 0);
        x.pass(10);
        error(x, "the lease is over", () -> x.read(0, 1), STATE);
        due("acquire(0, 10)", x.acquire(0, 10), 2);
        error(x, "no entry of this term", () -> x.read(0, 1), STATE);
        x.barrier(0);
        due("after a barrier", x.read(0, 1), 8);
        for (int s : NO_SERVERS) {
            error(x, "read(" + s + ", 0)", () -> x.read(s, 0), BAD);
        }
        for (int key : new int[] {-1, 8, MIN, MAX}) {
            error(x, "read(0, " + key + ")", () -> x.read(0, key), BAD);
            error(x, "read(1, " + key + ")", () -> x.read(1, key), BAD);
        }
    }

    private static void readAt() {
        LeaseCluster x = new LeaseCluster(0);
        error(x, "nothing is committed", () -> x.readAt(0, 1, 0), STATE);
        x.acquire(0, 100);
        x.pass(1);
        x.write(0, 1, 5);
        x.pass(3);
        x.write(0, 1, 6);
        x.pass(3);
        x.barrier(0);
        int[] due = {NONE, 5, 5, 5, 6, 6, 6, 6, STATE};
        for (int time = 0; time < due.length; time++) {
            due("readAt(0, 1, " + time + ")", x.readAt(0, 1, time), due[time]);
        }
        due("a follower knows less", x.readAt(3, 1, 4), 6);
        due("and nothing after that", x.readAt(3, 1, 5), STATE);
        due("another key", x.readAt(3, 2, 4), NONE);
        x.setState(0, 1);
        error(x, "a paused server", () -> x.readAt(0, 1, 4), STATE);
        x.setState(0, 2);
        error(x, "a crashed server", () -> x.readAt(0, 1, 4), STATE);
        x.setState(0, 0);
        due("without a lease", x.readAt(0, 1, 4), 6);
        due("a late time", x.readAt(0, 1, MAX), STATE);
        for (int s : NO_SERVERS) {
            error(x, "readAt(" + s + ", 0, 0)", () -> x.readAt(s, 0, 0), BAD);
        }
        for (int key : new int[] {-1, 8, MIN, MAX}) {
            error(x, "readAt(0, " + key + ", 0)", () -> x.readAt(0, key, 0), BAD);
        }
        error(x, "readAt(0, 1, -1)", () -> x.readAt(0, 1, -1), BAD);
        error(x, "readAt(0, 1, MIN)", () -> x.readAt(0, 1, MIN), BAD);
    }

    private static void log() {
        LeaseCluster x = new LeaseCluster(1);
        int[] empty = {0, 0, 0, NONE, 0};
        for (int what = 0; what <= 4; what++) {
            due("log(0, " + what + ") at first", x.log(0, what), empty[what]);
        }
        x.acquire(0, 10);
        x.giveUp(0);
        x.acquire(0, 20);
        x.write(0, 1, 1);
        x.pass(4);
        x.write(0, 1, 2);
        x.setState(1, 2);
        x.setState(2, 2);
        x.setState(3, 2);
        x.write(0, 1, 3);
        int[] leader = {3, 2, 2, 5, 1};
        int[] follower = {3, 2, 2, 5, 0};
        int[] crashed = {2, 1, 2, 1, 0};
        for (int what = 0; what <= 4; what++) {
            due("log(0, " + what + ")", x.log(0, what), leader[what]);
            due("log(4, " + what + ")", x.log(4, what), follower[what]);
            due("log(2, " + what + ")", x.log(2, what), crashed[what]);
        }
        for (int s : NO_SERVERS) {
            due("log(" + s + ", 0)", x.log(s, 0), BAD);
        }
        for (int what : new int[] {-1, 5, MIN, MAX}) {
            due("log(0, " + what + ")", x.log(0, what), BAD);
        }
    }

    private static void entry() {
        LeaseCluster x = new LeaseCluster(3);
        due("entry(0, 0, 0) at first", x.entry(0, 0, 0), BAD);
        x.acquire(2, 50);
        x.write(2, 6, 123);
        x.barrier(2);
        int[] first = {1, 6, 123, 3};
        int[] second = {1, NONE, NONE, 4};
        for (int what = 0; what <= 3; what++) {
            due("entry(2, 0, " + what + ")", x.entry(2, 0, what), first[what]);
            due("entry(4, 1, " + what + ")", x.entry(4, 1, what), second[what]);
        }
        for (int index : new int[] {-1, 2, 40, MIN, MAX}) {
            due("entry(2, " + index + ", 0)", x.entry(2, index, 0), BAD);
        }
        for (int s : NO_SERVERS) {
            due("entry(" + s + ", 0, 0)", x.entry(s, 0, 0), BAD);
        }
        for (int what : new int[] {-1, 4, MIN, MAX}) {
            due("entry(2, 0, " + what + ")", x.entry(2, 0, what), BAD);
        }
        x.setState(2, 2);
        due("a crashed server keeps its entries", x.entry(2, 0, 2), 123);
    }

    private static void agreement() {
        LeaseCluster x = new LeaseCluster(0);
        due("empty logs", x.agreement(0, 1), 0);
        x.acquire(0, 10);
        x.write(0, 1, 1);
        due("one entry", x.agreement(0, 4), 1);
        setAllLinks(x, 0, false);
        x.write(0, 1, 2);
        x.write(0, 1, 2);
        due("with the same one", x.agreement(0, 0), 3);
        due("a longer log", x.agreement(0, 1), 1);
        due("the other way", x.agreement(1, 0), 1);
        x.pass(10);
        x.acquire(1, 10);
        x.write(1, 1, 2);
        x.write(1, 1, 2);
        // The same keys and values, but other terms and timestamps.
        due("other terms", x.agreement(0, 1), 1);
        x.setState(4, 2);
        x.write(1, 1, 2);
        x.write(1, 1, 2);
        due("a log that is a beginning of the other one", x.agreement(4, 1), 3);
        x.setState(4, 0);
        x.write(1, 1, 2);
        due("the new leader and a follower", x.agreement(1, 4), 6);
        for (int s : NO_SERVERS) {
            due("agreement(" + s + ", 0)", x.agreement(s, 0), BAD);
            due("agreement(0, " + s + ")", x.agreement(0, s), BAD);
            due("agreement(" + s + ", " + s + ")", x.agreement(s, s), BAD);
        }
    }

    private static void history() {
        LeaseCluster x = new LeaseCluster(0);
        due("at first", x.history(0, 0), NONE);
        x.acquire(0, 10);
        x.write(0, 3, 1);
        x.write(0, 4, 2);
        x.barrier(0);
        x.write(0, 3, 3);
        due("history(3, 0)", x.history(3, 0), 1);
        due("history(3, 1)", x.history(3, 1), 3);
        due("history(3, 2)", x.history(3, 2), NONE);
        due("history(4, 0)", x.history(4, 0), 2);
        due("history(5, 0)", x.history(5, 0), NONE);
        due("history(3, MAX)", x.history(3, MAX), NONE);
        x.setState(2, 2);
        x.setState(3, 2);
        x.setState(4, 2);
        x.write(0, 3, 9);
        due("not committed", x.history(3, 2), NONE);
        x.setState(0, 2);
        due("a crash loses nothing of it", x.history(3, 1), 3);
        for (int key : new int[] {-1, 8, NONE, MIN, MAX}) {
            due("history(" + key + ", 0)", x.history(key, 0), BAD);
        }
        due("history(3, -1)", x.history(3, -1), BAD);
        due("history(3, MIN)", x.history(3, MIN), BAD);
    }

    private static void acknowledgement() {
        LeaseCluster x = new LeaseCluster(1);
        due("at first", x.acknowledgement(0, 0), NONE);
        x.acquire(4, 20);
        x.write(4, 0, 1);
        x.write(4, 0, 2);
        due("handOver(4, 1, 20)", x.handOver(4, 1, 20), 2);
        x.barrier(1);
        x.setClock(4, -1);
        // 1 gives its entry 2 (timestamp 3) at 5; 4, a tick late, gives 0 and 1 (1 and 2) at 4 and 5.
        x.pass(5);
        int[][] due = {{4, 0, 1, 4}, {1, 2, 3, 5}, {4, 1, 2, 5}};
        for (int i = 0; i < due.length; i++) {
            for (int what = 0; what <= 3; what++) {
                due("acknowledgement(" + i + ", " + what + ")", x.acknowledgement(i, what), due[i][what]);
            }
        }
        due("no more", x.acknowledgement(3, 0), NONE);
        due("no more", x.acknowledgement(MAX, 3), NONE);
        for (int what : new int[] {-1, 4, MIN, MAX}) {
            due("acknowledgement(0, " + what + ")", x.acknowledgement(0, what), BAD);
            due("acknowledgement(9, " + what + ")", x.acknowledgement(9, what), BAD);
        }
        due("acknowledgement(-1, 0)", x.acknowledgement(-1, 0), BAD);
        due("acknowledgement(MIN, 0)", x.acknowledgement(MIN, 0), BAD);
        // Several that are due at once come in the order of their timestamps.
        LeaseCluster y = new LeaseCluster(0);
        y.acquire(0, 50);
        y.write(0, 0, 1);
        y.write(0, 0, 2);
        y.setState(0, 1);
        y.pass(10);
        y.setState(0, 0);
        y.pass(1);
        due("the first", y.acknowledgement(0, 1), 0);
        due("the second", y.acknowledgement(1, 1), 1);
        due("both at 11", y.acknowledgement(0, 3) + y.acknowledgement(1, 3), 22);
    }

    private static void send() {
        LeaseCluster x = new LeaseCluster(0);
        error(x, "send without a lease", () -> x.send(0, 0, 0), STATE);
        x.acquire(0, 50);
        for (int i = 0; i < 20; i++) {
            due("send", x.send(0, i % 4, 999 - i), i);
        }
        due("messages", x.count(5), 20);
        error(x, "the 21st", () -> x.send(0, 0, 0), FULL);
        error(x, "STATE comes before FULL", () -> x.send(1, 0, 0), STATE);
        due("nothing is delivered yet", x.cell(0, 1), 0);
        x.deliver(0);
        error(x, "delivered ones count, too", () -> x.send(0, 0, 0), FULL);
        for (int s : NO_SERVERS) {
            error(x, "send(" + s + ", 0, 0)", () -> x.send(s, 0, 0), BAD);
        }
        for (int c : new int[] {-1, 4, MIN, MAX}) {
            error(x, "send(0, " + c + ", 0)", () -> x.send(0, c, 0), BAD);
        }
        for (int value : new int[] {-1, 1000, MIN, MAX}) {
            error(x, "send(0, 0, " + value + ")", () -> x.send(0, 0, value), BAD);
        }
    }

    private static void deliver() {
        LeaseCluster x = new LeaseCluster(0);
        for (int message : new int[] {-1, 0, MIN, MAX}) {
            error(x, "deliver(" + message + ") at first", () -> x.deliver(message), BAD);
        }
        x.acquire(0, 10);
        x.send(0, 2, 11);
        x.send(0, 2, 12);
        x.send(0, 3, 13);
        x.pass(10);
        x.acquire(1, 10);
        x.send(1, 2, 21);
        due("an old one, first", x.deliver(1), 1);
        due("an equal token", x.deliver(0), 1);
        due("its value", x.cell(2, 0), 11);
        due("its token", x.cell(2, 1), 1);
        due("a newer one", x.deliver(3), 1);
        due("its token", x.cell(2, 1), 2);
        due("an old one to another cell", x.deliver(2), 1);
        error(x, "twice", () -> x.deliver(2), STATE);
        error(x, "deliver(4)", () -> x.deliver(4), BAD);
        error(x, "deliver(-1)", () -> x.deliver(-1), BAD);
        // A refused message is delivered, too.
        LeaseCluster y = new LeaseCluster(0);
        y.acquire(0, 10);
        y.send(0, 0, 1);
        y.giveUp(0);
        y.acquire(0, 10);
        y.send(0, 0, 2);
        y.deliver(1);
        due("refused", y.deliver(0), 0);
        due("the value stays", y.cell(0, 0), 2);
        due("refused ones", y.count(6), 1);
        error(y, "again", () -> y.deliver(0), STATE);
        due("refused once", y.count(6), 1);
    }

    private static void cell() {
        LeaseCluster x = new LeaseCluster(0);
        x.acquire(3, 10);
        x.giveUp(3);
        x.acquire(3, 10);
        x.send(3, 3, 77);
        x.deliver(0);
        due("value", x.cell(3, 0), 77);
        due("token", x.cell(3, 1), 2);
        due("another cell", x.cell(0, 1), 0);
        for (int c : new int[] {-1, 4, MIN, MAX}) {
            due("cell(" + c + ", 0)", x.cell(c, 0), BAD);
        }
        for (int what : new int[] {-1, 2, MIN, MAX}) {
            due("cell(0, " + what + ")", x.cell(0, what), BAD);
        }
    }

    private static void safeFor() {
        LeaseCluster x = new LeaseCluster(4);
        x.setClock(2, 3);
        x.acquire(2, 50);
        due("50 from its reading, less the doubt", x.safeFor(2), 46);
        due("others", x.safeFor(0), 0);
        x.pass(45);
        due("one tick", x.safeFor(2), 1);
        x.setState(2, 1);
        due("paused", x.safeFor(2), 0);
        x.setState(2, 0);
        x.pass(1);
        due("over", x.safeFor(2), 0);
        x.pass(9);
        due("long over", x.safeFor(2), 0);
        for (int s : NO_SERVERS) {
            due("safeFor(" + s + ")", x.safeFor(s), BAD);
        }
    }

    private static void waitFor() {
        LeaseCluster x = new LeaseCluster(2);
        due("at first", x.waitFor(0), 0);
        x.acquire(0, 30);
        due("the holder", x.waitFor(0), 0);
        due("another", x.waitFor(1), 32);
        x.setClock(2, 2);
        x.setClock(3, 1);
        x.setClock(4, -2);
        // They are free after 32, 32, 30, 31 and 34 ticks: three of them after 32.
        due("the third that is free", x.waitFor(1), 32);
        x.setState(1, 2);
        due("not running", x.waitFor(1), NONE);
        due("of 0, 2, 3, 4 the third", x.waitFor(4), 32);
        x.setLink(4, 0, false);
        due("of 2, 3, 4 the third", x.waitFor(4), 34);
        x.setState(3, 1);
        due("no majority", x.waitFor(4), NONE);
        due("a paused one", x.waitFor(3), NONE);
        x.setState(3, 0);
        x.pass(33);
        due("a tick is left", x.waitFor(4), 1);
        x.pass(2);
        due("nothing is left", x.waitFor(4), 0);
        for (int s : NO_SERVERS) {
            due("waitFor(" + s + ")", x.waitFor(s), BAD);
        }
        waitForTermsAndLogs();
    }

    private static void waitForTermsAndLogs() {
        LeaseCluster x = new LeaseCluster(0);
        x.setState(0, 2);
        x.acquire(1, 10);
        x.giveUp(1);
        x.setState(0, 0);
        x.setState(4, 2);
        // 0 has the term 0; 1, 2 and 3 have 1, and refuse the term 1.
        due("terms never fall", x.waitFor(0), NONE);
        due("but grow by acquire()", x.acquire(0, 10), -11);
        due("then it need not wait", x.waitFor(0), 0);
        LeaseCluster y = new LeaseCluster(0);
        setAllLinks(y, 4, false);
        y.acquire(0, 10);
        y.write(0, 0, 0);
        setAllLinks(y, 4, true);
        y.acquire(4, 10);
        due("the log of 4 is too old", y.waitFor(4), NONE);
        due("that of 3 is not", y.waitFor(3), 10);
    }

    private static void leastCrashes() {
        LeaseCluster x = new LeaseCluster(0);
        due("any three", x.leastCrashes(), 7);
        x.setState(1, 2);
        due("two of the others", x.leastCrashes(), 5);
        x.setState(0, 1);
        due("one of the others", x.leastCrashes(), 4);
        x.setState(4, 2);
        due("none is needed", x.leastCrashes(), 0);
        LeaseCluster y = new LeaseCluster(0);
        setAllLinks(y, 0, false);
        setAllLinks(y, 1, false);
        due("2, 3 and 4 need each other", y.leastCrashes(), 4);
        LeaseCluster z = new LeaseCluster(0);
        for (int a = 0; a < 5; a++) {
            for (int b = a + 1; b < 5; b++) {
                z.setLink(a, b, a == 3 || b == 3);
            }
        }
        due("all need 3", z.leastCrashes(), 8);
        long before = z.digest();
        z.leastCrashes();
        due("it changes nothing", z.digest(), before);
        due("holders are as before", x.leastCrashes(), 0);
        leastCrashesByLogs();
    }

    private static void leastCrashesByLogs() {
        LeaseCluster x = new LeaseCluster(0);
        x.setState(3, 2);
        x.setState(4, 2);
        x.acquire(0, 10);
        x.write(0, 0, 0);
        x.setState(3, 0);
        x.setState(4, 0);
        // 3 and 4 have empty logs and the term 0: only 0, 1 and 2 can be elected, by three of all.
        due("0 and 1 leave 2, which 3 and 4 would elect", x.leastCrashes(), 7);
        x.pass(50);
        due("time is not what it needs", x.leastCrashes(), 7);
        x.setState(3, 2);
        due("then two are enough", x.leastCrashes(), 3);
    }

    private static void staleKeys() {
        LeaseCluster x = new LeaseCluster(0);
        due("at first", x.staleKeys(0), 0);
        x.acquire(0, 50);
        x.write(0, 0, 1);
        due("the leader", x.staleKeys(0), 0);
        due("a follower does not know yet", x.staleKeys(1), 1);
        x.write(0, 1, 1);
        due("now it knows the first", x.staleKeys(1), 1);
        x.write(0, 0, 2);
        x.barrier(0);
        due("now it knows all", x.staleKeys(1), 0);
        x.setState(1, 2);
        x.write(0, 0, 2);
        x.barrier(0);
        due("the same value is not stale", x.staleKeys(1), 0);
        x.write(0, 0, 3);
        x.write(0, 7, 3);
        x.write(0, 6, 3);
        due("one that is other, two that it has not", x.staleKeys(1), 3);
        due("for 2 only the last", x.staleKeys(2), 1);
        for (int s : NO_SERVERS) {
            due("staleKeys(" + s + ")", x.staleKeys(s), BAD);
        }
    }

    private static void isSafe() {
        LeaseCluster x = new LeaseCluster(3);
        due("at first", x.isSafe(), 1);
        x.acquire(0, 20);
        x.write(0, 1, 1);
        setAllLinks(x, 0, false);
        x.write(0, 1, 2);
        x.pass(23);
        x.acquire(1, 20);
        x.write(1, 1, 3);
        due("with logs that differ", x.isSafe(), 1);
        due("one holder", Integer.bitCount(x.count(9)), 1);
        // The rules keep all that isSafe() checks, whatever is called: clocks moved, states and links changed.
        java.util.Random random = new java.util.Random(5);
        for (int run = 0; run < 200; run++) {
            LeaseCluster y = new LeaseCluster(random.nextInt(8));
            for (int i = 0; i < 150; i++) {
                stir(y, random);
                due("isSafe()", y.isSafe(), 1);
            }
        }
    }

    private static void stir(LeaseCluster y, java.util.Random random) {
        int s = random.nextInt(5);
        int v = random.nextInt(5);
        switch (random.nextInt(10)) {
            case 0: y.setClock(s, random.nextInt(17) - 8); break;
            case 1: y.setState(s, random.nextInt(3)); break;
            case 2: y.setState(s, 0); break;
            case 3: y.setLink(s, v, random.nextBoolean()); break;
            case 4: case 5: y.acquire(s, 1 + random.nextInt(30)); break;
            case 6: y.renew(s, 1 + random.nextInt(30)); break;
            case 7: y.handOver(s, v, 1 + random.nextInt(30)); break;
            case 8: y.pass(1 + random.nextInt(15)); break;
            default:
                for (int each = 0; each < 5; each++) {
                    y.write(each, v, s);
                }
        }
    }

    private static void type() {
        LeaseCluster x = new LeaseCluster(0);
        due("type(0)", x.type(0), 1);
        due("type(127)", x.type(127), 2);
        for (int letter : new int[] {-1, 128, MIN, MAX}) {
            error(x, "type(" + letter + ")", () -> x.type(letter), BAD);
        }
        for (int length = 3; length <= 100; length++) {
            due("type(65)", x.type(65), length);
        }
        error(x, "the 101st byte", () -> x.type(65), FULL);
        error(x, "BAD comes before FULL", () -> x.type(128), BAD);
        due("bytes", x.count(7), 100);
        x.clear();
        due("after clear()", x.type(65), 1);
    }

    private static void clear() {
        LeaseCluster x = new LeaseCluster(0);
        due("at first", x.clear(), 0);
        typeText(x, "g0;");
        x.run();
        due("clear()", x.clear(), 3);
        due("the text is empty", x.count(7), 0);
        due("the results stay", x.result(0), STATE);
        due("again", x.clear(), 0);
        due("an empty text has no calls", x.run(), 0);
        due("and no results", x.result(0), NONE);
    }

    private static void run() {
        String[] good = {"", " ", "   ", "g0;", " g 0 ; ", "g0;g0;g0;", "a0 1;", "a 0  1 ;", "h0 1 2;", "w007 08 999;",
            "s0 0;c0 1;m0 1;r0 1;b0;p1;", "g000;", "a999 999;"};
        int[] calls = {0, 0, 0, 1, 1, 3, 1, 1, 1, 1, 6, 1, 1};
        for (int i = 0; i < good.length; i++) {
            due("'" + good[i] + "'", runOf(good[i]), calls[i]);
        }
        Object[][] bad = {{"g", 1}, {"g0", 2}, {"g0 ", 3}, {"a0", 2}, {"a0 ", 3}, {"a0 1", 4}, {";", 0}, {"0", 0},
            {" ;", 1}, {"x", 0}, {"A0 1;", 0}, {"g;", 1}, {"g0;;", 3}, {"g0g0;", 2}, {"gg", 1}, {"g0 1;", 3},
            {"g0000;", 4}, {"g1234", 4}, {"a01;", 3}, {"a0 1 2;", 5}, {"a0 1234;", 6}, {"a0;", 2}, {"w0 1;", 4},
            {"h0 1 2 3;", 7}, {"g-1;", 1}, {"g0,", 2}, {"g\t0;", 1}, {"g0;7", 3}, {"g0;a0 1;r", 9}, {"d0;", 0},
            {"a0 1r;", 4}, {"g0;\u0000", 3}, {"p 12 3;", 5}, {"s0 1 ;b", 7}, {"c1 2;m1;", 7}};
        for (Object[] pair : bad) {
            due("'" + pair[0] + "'", runOf((String) pair[0]), -2000 - (Integer) pair[1]);
        }
        StringBuilder most = new StringBuilder();
        for (int i = 0; i < 33; i++) {
            most.append("g9;");
        }
        due("33 calls", runOf(most.toString()), 33);
        due("33 calls and a beginning", runOf(most + "g"), -2100);
        due("33 calls and a blank", runOf(most + " "), 33);
        runEachLetter();
        runChangesNothingWithAFault();
    }

    private static void runEachLetter() {
        LeaseCluster x = new LeaseCluster(1);
        LeaseCluster y = new LeaseCluster(1);
        String text = "a1 40;w1 5 321;b1;r1 050;p10;c2 3;m 2 3;s0 2;s0 0;h1 4 30;g4;a 9 1;c1 1;p0;";
        typeText(x, text);
        int[] due = {y.acquire(1, 40), y.write(1, 5, 321), y.barrier(1), y.renew(1, 50), y.pass(10),
            y.setLink(2, 3, false), y.setLink(2, 3, true), y.setState(0, 2), y.setState(0, 0),
            y.handOver(1, 4, 30), y.giveUp(4), BAD, BAD, BAD};
        due("run()", x.run(), due.length);
        for (int i = 0; i < due.length; i++) {
            due("result " + i, x.result(i), due[i]);
        }
        due("the history", x.history(5, 0), 321);
        due("the time", x.count(0), 10);
        due("the link is mended", x.count(10), 10);
        due("the text stays", x.count(7), text.length());
        due("run() again", x.run(), due.length);
        due("it acts again", x.count(0), 20);
    }

    private static void runChangesNothingWithAFault() {
        LeaseCluster x = new LeaseCluster(0);
        typeText(x, "p5;p");
        error(x, "run() with a fault", x::run, -2004);
        due("no time passed", x.count(0), 0);
        typeText(x, "7;");
        due("run()", x.run(), 2);
        due("time", x.count(0), 12);
    }

    private static void result() {
        LeaseCluster x = new LeaseCluster(0);
        due("at first", x.result(0), NONE);
        due("negative at first", x.result(-1), BAD);
        typeText(x, "p3;g0;p4;");
        x.run();
        due("result(0)", x.result(0), 3);
        due("result(1)", x.result(1), STATE);
        due("result(2)", x.result(2), 7);
        due("result(3)", x.result(3), NONE);
        due("result(MAX)", x.result(MAX), NONE);
        due("result(34)", x.result(34), NONE);
        due("result(-1)", x.result(-1), BAD);
        due("result(MIN)", x.result(MIN), BAD);
        x.type('x');
        x.run();
        due("a fault leaves them", x.result(2), 7);
        x.clear();
        typeText(x, "p1;");
        x.run();
        due("the latest run", x.result(0), 8);
        due("has fewer", x.result(1), NONE);
    }

    /** A cluster in which everything that a snapshot saves is other than at first. */
    private static LeaseCluster busy() {
        LeaseCluster x = new LeaseCluster(2);
        x.setClock(1, -1);
        x.acquire(0, 10);
        x.send(0, 1, 50);
        x.send(0, 1, 51);
        x.write(0, 3, 33);
        x.pass(6);
        x.write(0, 4, 44);
        x.handOver(0, 1, 60);
        x.send(1, 1, 52);
        x.deliver(2);
        x.deliver(0);
        x.setLink(2, 4, false);
        x.setState(4, 1);
        x.barrier(1);
        return x;
    }

    /** Changes all of it again. */
    private static void change(LeaseCluster x) {
        x.deliver(1);
        x.setState(4, 0);
        x.setLink(2, 4, true);
        x.setClock(1, 2);
        x.setClock(3, -2);
        x.write(1, 3, 34);
        x.pass(100);
        x.acquire(2, 40);
        x.send(2, 0, 1);
        x.deliver(3);
        x.write(2, 0, 0);
        x.setLink(0, 1, false);
        x.setState(0, 2);
    }

    private static void save() {
        LeaseCluster x = busy();
        long digest = x.digest();
        due("save(1)", x.save(1), 6);
        due("saving changes nothing", x.digest(), digest);
        for (int k : new int[] {-1, 2, MIN, MAX}) {
            error(x, "save(" + k + ")", () -> x.save(k), BAD);
        }
        change(x);
        x.restore(1);
        due("the digest is restored", x.digest(), digest);
        error(x, "nothing in the other one", () -> x.restore(0), STATE);
        // What the digest does not show: messages, links, what is owed, the history.
        due("a delivered message", x.deliver(0), STATE);
        due("one that is not", x.deliver(1), 0);
        due("the link", x.setLink(2, 4, false), 0);
        due("the history", x.history(3, 0), 33);
        due("no later history", x.history(3, 1), NONE);
        due("owed by 0", x.log(0, 4), 1);
        x.pass(100);
        due("given later", x.acknowledgement(1, 2), 8);
        due("in place of what it held", x.save(1), 106);
        due("restored", x.restore(1), 106);
    }

    private static void restore() {
        LeaseCluster x = busy();
        error(x, "nothing saved in 0", () -> x.restore(0), STATE);
        error(x, "nothing saved in 1", () -> x.restore(1), STATE);
        for (int k : new int[] {-1, 2, MIN, MAX}) {
            error(x, "restore(" + k + ")", () -> x.restore(k), BAD);
        }
        long first = x.digest();
        x.save(0);
        change(x);
        long second = x.digest();
        x.save(1);
        due("restore(0)", x.restore(0), 6);
        due("the first", x.digest(), first);
        change(x);
        due("the same calls give the same again", x.digest(), second);
        x.restore(0);
        due("a snapshot can be restored again", x.digest(), first);
        due("restore(1)", x.restore(1), 106);
        due("the second", x.digest(), second);
        typeText(x, "p1;");
        x.run();
        x.restore(0);
        due("the text stays", x.count(7), 3);
        due("the results stay", x.result(0), 107);
        due("the time is restored", x.count(0), 6);
        due("terms may decrease", x.known(2, 0), 2);
        x.acquire(4, 1);
        x.acquire(3, 1);
        due("a reason", x.reason(2), 3);
        x.restore(0);
        due("reasons are restored", x.reason(2), 0);
    }

    private static void count() {
        LeaseCluster x = busy();
        typeText(x, "g3;g3;g3; ");
        x.run();
        int[] due = {6, 2, 3, 1, 1, 3, 1, 10, 3, 2, 9};
        for (int what = 0; what <= 10; what++) {
            due("count(" + what + ")", x.count(what), due[what]);
        }
        for (int what : new int[] {-1, 11, MIN, MAX}) {
            due("count(" + what + ")", x.count(what), BAD);
        }
        for (int s = 0; s < 5; s++) {
            LeaseCluster y = new LeaseCluster(0);
            y.acquire(s, 1);
            due("the holder " + s, y.count(9), 1 << s);
        }
    }

    private static long hashOf(LeaseCluster x, int[] states) {
        long h = 2525;
        for (int what = 0; what <= 10; what++) {
            h = h * 31 + x.count(what);
        }
        for (int s = 0; s < 5; s++) {
            h = h * 31 + x.clock(s, 0);
            h = h * 31 + states[s];
            h = h * 31 + x.holds(s);
            for (int what = 0; what <= 4; what++) {
                h = h * 31 + x.known(s, what);
            }
            for (int what = 0; what <= 4; what++) {
                h = h * 31 + x.log(s, what);
            }
            for (int i = 0; i < x.log(s, 0); i++) {
                for (int what = 0; what <= 3; what++) {
                    h = h * 31 + x.entry(s, i, what);
                }
            }
        }
        for (int i = 0; i < x.count(3); i++) {
            for (int what = 0; what <= 3; what++) {
                h = h * 31 + x.acknowledgement(i, what);
            }
        }
        for (int c = 0; c < 4; c++) {
            h = h * 31 + x.cell(c, 0);
            h = h * 31 + x.cell(c, 1);
        }
        for (int s = 0; s < 5; s++) {
            h = h * 31 + x.reason(s);
        }
        return h;
    }

    private static void digest() {
        LeaseCluster x = new LeaseCluster(7);
        due("at first", x.digest(), hashOf(x, new int[5]));
        LeaseCluster y = busy();
        due("later", y.digest(), hashOf(y, new int[] {0, 0, 0, 0, 1}));
        due("again", y.digest(), y.digest());
        change(y);
        due("still later", y.digest(), hashOf(y, new int[] {2, 0, 0, 0, 0}));
    }
}
