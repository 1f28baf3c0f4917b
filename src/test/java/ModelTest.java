import java.util.ArrayList;
import java.util.List;
import java.util.Random;
import java.util.regex.Matcher;
import java.util.regex.Pattern;

/**
 * Random runs of calls on the class and on a second, slow model that is written from the document alone. Every
 * answer is compared, and the digest after every call. The analyses of the model try everything out on copies.
 */
public final class ModelTest {
    private static final int NONE = -1000, BAD = -1001, STATE = -1002, FULL = -1003;
    private static final int RUNS = 400;
    private static final int CALLS = 500;
    /** Calls that are mostly left out in calm runs, so that logs and the store get full. */
    private static final List<String> STORMS = List.of("setState", "cut", "restore", "giveUp", "setClock");

    record Entry(int term, Integer key, Integer value, int stamp) { }

    record Ack(int server, int entry, int stamp, int time) { }

    record Lease(int term, int end) { }

    record Promise(int holder, int end) { }

    static final class Message {
        final int cell, value, token;
        boolean delivered;

        Message(int cell, int value, int token) {
            this.cell = cell;
            this.value = value;
            this.token = token;
        }
    }

    static final class Node {
        int offset, state, term, committed;
        Promise promise;
        Lease lease;
        List<Entry> log = new ArrayList<>();
        List<Ack> toGive = new ArrayList<>();

        Node copy() {
            Node n = new Node();
            n.offset = offset;
            n.state = state;
            n.term = term;
            n.committed = committed;
            n.promise = promise;
            n.lease = lease;
            n.log = new ArrayList<>(log);
            n.toGive = new ArrayList<>(toGive);
            return n;
        }

        int lastTerm() {
            return log.isEmpty() ? 0 : log.get(log.size() - 1).term();
        }
    }

    static final class Model {
        int d, time, refused;
        Node[] nodes = new Node[5];
        boolean[][] cut = new boolean[5][5];
        List<Entry> history = new ArrayList<>();
        List<Ack> acks = new ArrayList<>();
        List<Message> messages = new ArrayList<>();
        int[][] cells = new int[4][2];
        int[] reasons;
        String text = "";
        List<Integer> results = new ArrayList<>();
        Model[] snapshots = new Model[2];

        Model(int doubt) {
            d = doubt < 0 ? 0 : doubt > 20 ? 20 : doubt;
            for (int i = 0; i < 5; i++) {
                nodes[i] = new Node();
            }
        }

        void take(Model m) {
            d = m.d;
            time = m.time;
            refused = m.refused;
            for (int i = 0; i < 5; i++) {
                nodes[i] = m.nodes[i].copy();
                cut[i] = m.cut[i].clone();
            }
            history = new ArrayList<>(m.history);
            acks = new ArrayList<>(m.acks);
            messages = new ArrayList<>();
            for (Message x : m.messages) {
                Message y = new Message(x.cell, x.value, x.token);
                y.delivered = x.delivered;
                messages.add(y);
            }
            for (int i = 0; i < 4; i++) {
                cells[i] = m.cells[i].clone();
            }
            reasons = m.reasons == null ? null : m.reasons.clone();
        }

        Model copy() {
            Model m = new Model(d);
            m.take(this);
            return m;
        }

        static boolean in(int x, int from, int to) {
            return from <= x && x <= to;
        }

        int early(int s) { return time + nodes[s].offset - d; }

        int late(int s) { return time + nodes[s].offset + d; }

        boolean reached(int a, int b) {
            return nodes[a].state == 0 && nodes[b].state == 0 && (a == b || !cut[a][b]);
        }

        boolean holding(int s) {
            return nodes[s].state == 0 && nodes[s].lease != null && late(s) < nodes[s].lease.end();
        }

        boolean recent(Node a, Node b) {
            if (a.lastTerm() != b.lastTerm()) {
                return a.lastTerm() > b.lastTerm();
            }
            return a.log.size() >= b.log.size();
        }

        int doAcquire(int s, int duration) {
            Node me = nodes[s];
            int t = ++me.term;
            int e = time + me.offset + duration;
            reasons = new int[5];
            int n = 0;
            for (int v = 0; v < 5; v++) {
                Node o = nodes[v];
                if (!reached(s, v)) {
                    reasons[v] = 1;
                } else if (v != s && o.term >= t) {
                    reasons[v] = 2;
                    if (o.term > me.term) {
                        me.term = o.term;
                    }
                } else if (o.promise != null && o.promise.holder() != s && early(v) < o.promise.end()) {
                    reasons[v] = 3;
                } else if (!recent(me, o)) {
                    reasons[v] = 4;
                } else {
                    n++;
                    if (o.term < t) {
                        o.term = t;
                    }
                    o.promise = new Promise(s, e);
                }
            }
            me.lease = n >= 3 ? new Lease(t, e) : null;
            return n >= 3 ? t : -10 - n;
        }

        int doRenew(int s, int duration) {
            Node me = nodes[s];
            int t = me.lease.term();
            int e = time + me.offset + duration;
            reasons = new int[5];
            int n = 0;
            for (int v = 0; v < 5; v++) {
                Node o = nodes[v];
                boolean mine = o.promise != null && o.promise.holder() == s;
                if (!reached(s, v)) {
                    reasons[v] = 1;
                } else if (o.term > t) {
                    reasons[v] = 2;
                } else if (o.promise != null && !mine && early(v) < o.promise.end()) {
                    reasons[v] = 3;
                } else if (!mine && !recent(me, o)) {
                    reasons[v] = 4;
                } else {
                    n++;
                    o.term = t;
                    if (!mine || o.promise.end() <= e) {
                        o.promise = new Promise(s, e);
                    }
                }
            }
            if (n < 3) {
                return -10 - n;
            }
            if (e > me.lease.end()) {
                me.lease = new Lease(t, e);
            }
            return me.lease.end();
        }

        int doGiveUp(int s) {
            int n = 0;
            nodes[s].lease = null;
            for (int v = 0; v < 5; v++) {
                if (reached(s, v) && nodes[v].promise != null && nodes[v].promise.holder() == s) {
                    nodes[v].promise = null;
                    n++;
                }
            }
            return n;
        }

        void sendLog(int s, int v, int committed) {
            nodes[v].log = new ArrayList<>(nodes[s].log);
            nodes[v].term = nodes[s].lease.term();
            if (committed > nodes[v].committed) {
                nodes[v].committed = committed;
            }
        }

        int doWrite(int s, Integer key, Integer value) {
            Node me = nodes[s];
            if (!holding(s)) {
                return STATE;
            }
            if (me.log.size() == 40) {
                return FULL;
            }
            int stamp = late(s);
            if (!me.log.isEmpty() && me.log.get(me.log.size() - 1).stamp() >= stamp) {
                stamp = me.log.get(me.log.size() - 1).stamp() + 1;
            }
            me.log.add(new Entry(me.lease.term(), key, value, stamp));
            int n = 1;
            for (int v = 0; v < 5; v++) {
                if (v != s && reached(s, v) && nodes[v].term <= me.lease.term()) {
                    sendLog(s, v, me.committed);
                    n++;
                }
            }
            if (n < 3) {
                return -10 - n;
            }
            me.committed = me.log.size();
            if (history.size() < me.committed) {
                history = new ArrayList<>(me.log);
            }
            me.toGive.add(new Ack(s, me.log.size() - 1, stamp, 0));
            return me.log.size() - 1;
        }

        void doTick() {
            time++;
            for (int s = 0; s < 5; s++) {
                List<Ack> now = new ArrayList<>();
                for (Ack a : nodes[s].toGive) {
                    if (nodes[s].state == 0 && a.stamp() < early(s)) {
                        now.add(a);
                    }
                }
                nodes[s].toGive.removeAll(now);
                now.sort((a, b) -> Integer.compare(a.stamp(), b.stamp()));
                for (Ack a : now) {
                    acks.add(new Ack(s, a.entry(), a.stamp(), time));
                }
            }
        }

        int last(List<Entry> entries, int key, int time) {
            int found = NONE;
            for (Entry e : entries) {
                if (e.key() != null && e.key() == key && e.stamp() <= time) {
                    found = e.value();
                }
            }
            return found;
        }

        List<Entry> committedPart(int s) {
            return nodes[s].log.subList(0, nodes[s].committed);
        }

        boolean keepsRules() {
            int holders = 0;
            for (int s = 0; s < 5; s++) {
                holders += holding(s) ? 1 : 0;
                List<Entry> log = nodes[s].log;
                for (int i = 0; i + 1 < log.size(); i++) {
                    if (log.get(i).term() > log.get(i + 1).term() || log.get(i).stamp() >= log.get(i + 1).stamp()) {
                        return false;
                    }
                }
                int length = nodes[s].committed;
                if (length > history.size() || !history.subList(0, length).equals(committedPart(s))) {
                    return false;
                }
            }
            return holders <= 1;
        }

        List<Ack> keptAcks() {
            return acks.subList(Math.max(0, acks.size() - 50), acks.size());
        }

        /** Tries acquire() after ever more ticks; no promise lasts longer than 100 ticks and the doubts. */
        int waited(int s) {
            if (nodes[s].state != 0) {
                return NONE;
            }
            for (int ticks = 0; ticks <= 200; ticks++) {
                Model m = copy();
                m.time += ticks;
                if (m.doAcquire(s, 1) >= 0) {
                    return ticks;
                }
            }
            return NONE;
        }

        boolean stopped() {
            for (int s = 0; s < 5; s++) {
                if (waited(s) != NONE) {
                    return false;
                }
            }
            return true;
        }

        int fewest() {
            for (int size = 0; size <= 5; size++) {
                for (int set = 0; set < 32; set++) {
                    Model m = copy();
                    boolean running = Integer.bitCount(set) == size;
                    for (int s = 0; s < 5; s++) {
                        if ((set >> s & 1) == 1) {
                            running &= m.nodes[s].state == 0;
                            m.nodes[s].state = 2;
                        }
                    }
                    if (running && m.stopped()) {
                        return set;
                    }
                }
            }
            throw new IllegalStateException("crashing all stops all");
        }

        static final Pattern TEXT = Pattern.compile("(?: *(?:[gbp] *\\d{1,3}|[arscm] *\\d{1,3} +\\d{1,3}"
                + "|[hw] *\\d{1,3} +\\d{1,3} +\\d{1,3}) *;)* *");

        /** The first byte with which the text is no beginning of a scenario any more. */
        int fault() {
            for (int p = 1; p <= text.length(); p++) {
                Matcher m = TEXT.matcher(text.substring(0, p));
                if (!m.matches() && !m.hitEnd()) {
                    return p - 1;
                }
            }
            return TEXT.matcher(text).matches() ? -1 : text.length();
        }

        int runText() {
            int p = fault();
            if (p >= 0) {
                return -2000 - p;
            }
            results = new ArrayList<>();
            for (String one : text.split(";")) {
                if (one.isBlank()) {
                    continue;
                }
                String[] part = one.trim().substring(1).trim().split(" +");
                int[] x = new int[3];
                for (int i = 0; i < part.length; i++) {
                    x[i] = Integer.parseInt(part[i]);
                }
                String name = switch (one.trim().charAt(0)) {
                    case 'a' -> "acquire";
                    case 'r' -> "renew";
                    case 'g' -> "giveUp";
                    case 'h' -> "handOver";
                    case 'w' -> "write";
                    case 'b' -> "barrier";
                    case 'p' -> "pass";
                    case 's' -> "setState";
                    case 'c' -> "cut";
                    default -> "mend";
                };
                results.add((int) call(name, x[0], x[1], x[2]));
            }
            return results.size();
        }

        long call(String name, int a, int b, int c) {
            boolean srv = in(a, 0, 4);
            switch (name) {
                case "setClock": {
                    if (!srv || !in(b, -d, d)) return BAD;
                    int old = nodes[a].offset;
                    nodes[a].offset = b;
                    return old;
                }
                case "clock":
                    return !srv || !in(b, 0, 2) ? BAD : time + nodes[a].offset + (b == 0 ? 0 : b == 1 ? -d : d);
                case "pass":
                    if (!in(a, 1, 200)) return BAD;
                    if (time > 100000 - a) return FULL;
                    for (int i = 0; i < a; i++) doTick();
                    return time;
                case "setState": {
                    if (!srv || !in(b, 0, 2)) return BAD;
                    int old = nodes[a].state;
                    nodes[a].state = b;
                    if (b == 2) {
                        nodes[a].lease = null;
                        nodes[a].toGive.clear();
                    }
                    return old;
                }
                case "cut": case "mend": {
                    if (!srv || !in(b, 0, 4) || a == b) return BAD;
                    boolean up = !cut[a][b];
                    cut[a][b] = cut[b][a] = name.equals("cut");
                    return up ? 1 : 0;
                }
                case "acquire":
                    if (!srv || !in(b, 1, 100)) return BAD;
                    return nodes[a].state != 0 || holding(a) ? STATE : doAcquire(a, b);
                case "renew":
                    if (!srv || !in(b, 1, 100)) return BAD;
                    return !holding(a) ? STATE : doRenew(a, b);
                case "giveUp":
                    return !srv ? BAD : !holding(a) ? STATE : doGiveUp(a);
                case "handOver":
                    if (!srv || !in(b, 0, 4) || a == b || !in(c, 1, 100)) return BAD;
                    if (!holding(a) || !reached(a, b) || nodes[b].term > nodes[a].lease.term()) return STATE;
                    sendLog(a, b, nodes[a].committed);
                    doGiveUp(a);
                    return call("acquire", b, c, 0);
                case "reason":
                    return !srv ? BAD : reasons == null ? NONE : reasons[a];
                case "holds":
                    return !srv ? BAD : holding(a) ? 1 : 0;
                case "known": {
                    if (!srv || !in(b, 0, 4)) return BAD;
                    Node n = nodes[a];
                    if (b == 0) return n.term;
                    if (b <= 2) return n.promise == null ? NONE : b == 1 ? n.promise.holder() : n.promise.end();
                    return n.lease == null ? NONE : b == 3 ? n.lease.term() : n.lease.end();
                }
                case "write":
                    return !srv || !in(b, 0, 7) || !in(c, 0, 999) ? BAD : doWrite(a, b, c);
                case "barrier":
                    return !srv ? BAD : doWrite(a, null, null);
                case "read": {
                    if (!srv || !in(b, 0, 7)) return BAD;
                    List<Entry> part = committedPart(a);
                    if (!holding(a) || part.isEmpty()
                            || part.get(part.size() - 1).term() != nodes[a].lease.term()) return STATE;
                    return last(part, b, Integer.MAX_VALUE);
                }
                case "readAt": {
                    if (!srv || !in(b, 0, 7) || c < 0) return BAD;
                    List<Entry> part = committedPart(a);
                    if (nodes[a].state != 0 || part.isEmpty() || part.get(part.size() - 1).stamp() < c) return STATE;
                    return last(part, b, c);
                }
                case "log": {
                    if (!srv || !in(b, 0, 4)) return BAD;
                    Node n = nodes[a];
                    int[] all = {n.log.size(), n.committed, n.lastTerm(),
                        n.committed == 0 ? NONE : n.log.get(n.committed - 1).stamp(), n.toGive.size()};
                    return all[b];
                }
                case "entry": {
                    if (!srv || !in(b, 0, nodes[a].log.size() - 1) || !in(c, 0, 3)) return BAD;
                    Entry e = nodes[a].log.get(b);
                    int[] all = {e.term(), e.key() == null ? NONE : e.key(), e.value() == null ? NONE : e.value(),
                        e.stamp()};
                    return all[c];
                }
                case "agreement": {
                    if (!srv || !in(b, 0, 4)) return BAD;
                    List<Entry> x = nodes[a].log;
                    List<Entry> y = nodes[b].log;
                    int n = 0;
                    while (n < x.size() && n < y.size() && x.get(n).equals(y.get(n))) n++;
                    return n;
                }
                case "history": {
                    if (!in(a, 0, 7) || b < 0) return BAD;
                    List<Integer> values = new ArrayList<>();
                    for (Entry e : history) if (e.key() != null && e.key() == a) values.add(e.value());
                    return b < values.size() ? values.get(b) : NONE;
                }
                case "acknowledgement": {
                    if (a < 0 || !in(b, 0, 3)) return BAD;
                    if (a >= keptAcks().size()) return NONE;
                    Ack k = keptAcks().get(a);
                    return new int[] {k.server(), k.entry(), k.stamp(), k.time()}[b];
                }
                case "send":
                    if (!srv || !in(b, 0, 3) || !in(c, 0, 999)) return BAD;
                    if (!holding(a)) return STATE;
                    if (messages.size() == 20) return FULL;
                    messages.add(new Message(b, c, nodes[a].lease.term()));
                    return messages.size() - 1;
                case "deliver": {
                    if (!in(a, 0, messages.size() - 1)) return BAD;
                    Message m = messages.get(a);
                    if (m.delivered) return STATE;
                    m.delivered = true;
                    if (m.token < cells[m.cell][1]) {
                        refused++;
                        return 0;
                    }
                    cells[m.cell] = new int[] {m.value, m.token};
                    return 1;
                }
                case "cell":
                    return !in(a, 0, 3) || !in(b, 0, 1) ? BAD : cells[a][b];
                case "safeFor": {
                    if (!srv) return BAD;
                    Model m = copy();
                    int n = 0;
                    while (m.holding(a)) {
                        m.time++;
                        n++;
                    }
                    return n;
                }
                case "waitFor":
                    return !srv ? BAD : waited(a);
                case "leastCrashes":
                    return fewest();
                case "staleKeys": {
                    if (!srv) return BAD;
                    int n = 0;
                    for (int k = 0; k < 8; k++) {
                        int all = Integer.MAX_VALUE;
                        if (last(committedPart(a), k, all) != last(history, k, all)) n++;
                    }
                    return n;
                }
                case "isSafe":
                    return keepsRules() ? 1 : 0;
                case "type":
                    if (!in(a, 0, 127)) return BAD;
                    if (text.length() == 100) return FULL;
                    text += (char) a;
                    return text.length();
                case "clear": {
                    int n = text.length();
                    text = "";
                    return n;
                }
                case "run":
                    return runText();
                case "result":
                    return a < 0 ? BAD : a < results.size() ? results.get(a) : NONE;
                case "save":
                    if (!in(a, 0, 1)) return BAD;
                    snapshots[a] = copy();
                    return time;
                case "restore":
                    if (!in(a, 0, 1)) return BAD;
                    if (snapshots[a] == null) return STATE;
                    take(snapshots[a]);
                    return time;
                case "count": {
                    if (!in(a, 0, 10)) return BAD;
                    int set = 0;
                    int up = 0;
                    for (int s = 0; s < 5; s++) {
                        if (holding(s)) set += 1 << s;
                        for (int v = 0; v < s; v++) if (!cut[s][v]) up++;
                    }
                    return new int[] {time, d, history.size(), keptAcks().size(), acks.size(), messages.size(),
                        refused, text.length(), results.size(), set, up}[a];
                }
                case "digest": {
                    long h = 2525;
                    for (int i = 0; i <= 10; i++) h = 31 * h + call("count", i, 0, 0);
                    for (int s = 0; s < 5; s++) {
                        h = 31 * h + call("clock", s, 0, 0);
                        h = 31 * h + nodes[s].state;
                        h = 31 * h + call("holds", s, 0, 0);
                        for (int i = 0; i <= 4; i++) h = 31 * h + call("known", s, i, 0);
                        for (int i = 0; i <= 4; i++) h = 31 * h + call("log", s, i, 0);
                        for (int i = 0; i < nodes[s].log.size(); i++) {
                            for (int w = 0; w <= 3; w++) h = 31 * h + call("entry", s, i, w);
                        }
                    }
                    for (int i = 0; i < keptAcks().size(); i++) {
                        for (int w = 0; w <= 3; w++) h = 31 * h + call("acknowledgement", i, w, 0);
                    }
                    for (int[] cell : cells) h = 31 * (31 * h + cell[0]) + cell[1];
                    for (int s = 0; s < 5; s++) h = 31 * h + call("reason", s, 0, 0);
                    return h;
                }
                default:
                    throw new IllegalArgumentException(name);
            }
        }
    }

    private static long ask(LeaseCluster x, String name, int a, int b, int c) {
        return switch (name) {
            case "setClock" -> x.setClock(a, b);
            case "clock" -> x.clock(a, b);
            case "pass" -> x.pass(a);
            case "setState" -> x.setState(a, b);
            case "cut" -> x.setLink(a, b, false);
            case "mend" -> x.setLink(a, b, true);
            case "acquire" -> x.acquire(a, b);
            case "renew" -> x.renew(a, b);
            case "giveUp" -> x.giveUp(a);
            case "handOver" -> x.handOver(a, b, c);
            case "reason" -> x.reason(a);
            case "holds" -> x.holds(a);
            case "known" -> x.known(a, b);
            case "write" -> x.write(a, b, c);
            case "barrier" -> x.barrier(a);
            case "read" -> x.read(a, b);
            case "readAt" -> x.readAt(a, b, c);
            case "log" -> x.log(a, b);
            case "entry" -> x.entry(a, b, c);
            case "agreement" -> x.agreement(a, b);
            case "history" -> x.history(a, b);
            case "acknowledgement" -> x.acknowledgement(a, b);
            case "send" -> x.send(a, b, c);
            case "deliver" -> x.deliver(a);
            case "cell" -> x.cell(a, b);
            case "safeFor" -> x.safeFor(a);
            case "waitFor" -> x.waitFor(a);
            case "leastCrashes" -> x.leastCrashes();
            case "staleKeys" -> x.staleKeys(a);
            case "isSafe" -> x.isSafe();
            case "type" -> x.type(a);
            case "clear" -> x.clear();
            case "run" -> x.run();
            case "result" -> x.result(a);
            case "save" -> x.save(a);
            case "restore" -> x.restore(a);
            case "count" -> x.count(a);
            case "digest" -> x.digest();
            default -> throw new IllegalArgumentException(name);
        };
    }

    private static final int[] ODD = {-1, 5, 8, 40, 101, 201, 1000, -1000, Integer.MIN_VALUE, Integer.MAX_VALUE};
    /** The names, the likely ones several times. */
    private static final String[] NAMES = ("setClock clock pass pass pass setState setState setState cut mend mend"
            + " acquire acquire acquire acquire renew renew giveUp handOver handOver reason holds known write write"
            + " write write write barrier read readAt readAt log entry agreement history acknowledgement send send"
            + " deliver deliver cell safeFor waitFor leastCrashes staleKeys isSafe text text run result save restore"
            + " count clear").split(" ");
    private static final String PIECES = "a r g h w b p s c m ;;; ;;; ;;; 0123456789012345678901234      x";

    private final Random random;
    private final boolean calm;
    private final LeaseCluster real;
    private final Model model;
    private final List<String> trace = new ArrayList<>();

    private ModelTest(int seed) {
        random = new Random(seed);
        calm = seed % 3 == 0;
        int doubt = random.nextInt(4) == 0 ? random.nextInt(40) - 5 : random.nextInt(7);
        real = new LeaseCluster(doubt);
        model = new Model(doubt);
        trace.add("new LeaseCluster(" + doubt + ")");
    }

    private int pick(int from, int to) {
        int x = random.nextInt(60);
        return x == 0 ? ODD[random.nextInt(ODD.length)] : x == 1 ? to + 1 : x == 2 ? from - 1 : x == 3 ? to
                : from + random.nextInt(to - from + 1);
    }

    /** Mostly the server that holds its lease, if there is one. */
    private int leader() {
        int set = real.count(9);
        return set != 0 && random.nextInt(6) != 0 ? Integer.numberOfTrailingZeros(set) : pick(0, 4);
    }

    private int ticks() {
        return random.nextInt(8) == 0 ? pick(1, 200) : pick(1, 12);
    }

    private int state() {
        return random.nextInt(5) < 3 ? 0 : pick(0, 2);
    }

    private boolean same(String name, int a, int b, int c) {
        long got = ask(real, name, a, b, c);
        long due = model.call(name, a, b, c);
        trace.add(name + "(" + a + ", " + b + ", " + c + ") = " + got);
        if (got != due) {
            System.out.println(String.join("; ", trace) + " but due is " + due);
            return false;
        }
        if (real.digest() != model.call("digest", 0, 0, 0)) {
            System.out.println(String.join("; ", trace) + " and then the digest is wrong");
            return false;
        }
        return true;
    }

    private boolean typeSome() {
        StringBuilder text = new StringBuilder();
        if (random.nextInt(3) == 0) {
            for (int n = random.nextInt(12); n > 0; n--) {
                text.append(PIECES.charAt(random.nextInt(PIECES.length())));
            }
        } else {
            for (int n = 1 + random.nextInt(5); n > 0; n--) {
                text.append(typedCall());
            }
        }
        boolean good = true;
        for (int i = 0; i < text.length() && good; i++) {
            good = same("type", random.nextInt(400) == 0 ? pick(0, 127) : text.charAt(i), 0, 0);
        }
        return good;
    }

    private String typedCall() {
        String gap = random.nextInt(6) == 0 ? "  " : "";
        int s = Math.max(0, leader());
        int x = random.nextInt(5);
        int n = 1 + random.nextInt(60);
        String[] calls = {"a" + x + " " + n, "r" + s + " 0" + n, "g" + s, "h" + s + " " + x + "  " + n,
            "w" + s + " " + x + " " + n, "b" + s, "p" + n % 9, "s" + x + " " + n % 3, "c" + x + " " + n % 5,
            "m " + x + " " + n % 5, "w " + s + " " + x + " 999"};
        return gap + calls[random.nextInt(calls.length)] + gap + ";" + gap;
    }

    private boolean step() {
        String name = NAMES[random.nextInt(NAMES.length)];
        if (calm && STORMS.contains(name) && random.nextInt(8) != 0) {
            return true;
        }
        int s = pick(0, 4);
        return switch (name) {
            case "text" -> random.nextInt(3) != 0 || typeSome();
            case "setClock" -> same(name, s, pick(-model.d, model.d), 0);
            case "clock" -> same(name, s, pick(0, 2), 0);
            case "pass" -> same(name, ticks(), 0, 0);
            case "setState" -> same(name, s, state(), 0);
            case "acquire" -> same(name, s, pick(1, 100), 0);
            case "renew" -> same(name, leader(), pick(1, 100), 0);
            case "giveUp" -> random.nextInt(3) != 0 || same(name, leader(), 0, 0);
            case "handOver" -> same(name, leader(), s, pick(1, 100));
            case "known", "log" -> same(name, s, pick(0, 4), 0);
            case "write" -> same(name, leader(), pick(0, 7), random.nextBoolean() ? pick(0, 3) : pick(0, 999));
            case "barrier" -> same(name, leader(), 0, 0);
            case "read" -> same(name, leader(), pick(0, 7), 0);
            case "readAt" -> same(name, s, pick(0, 7), pick(0, model.time + 5));
            case "entry" -> same(name, s, pick(0, 8), pick(0, 3));
            case "history" -> same(name, pick(0, 7), pick(0, 3), 0);
            case "acknowledgement" -> same(name, pick(0, 50), pick(0, 3), 0);
            case "send" -> same(name, leader(), pick(0, 3), pick(0, 999));
            case "deliver" -> same(name, pick(0, Math.max(0, model.messages.size() - 1)), 0, 0);
            case "cell" -> same(name, pick(0, 3), pick(0, 1), 0);
            case "leastCrashes" -> random.nextInt(6) != 0 || same(name, 0, 0, 0);
            case "result" -> same(name, pick(0, 34), 0, 0);
            case "save" -> same(name, pick(0, 1), 0, 0);
            case "restore" -> random.nextInt(4) != 0 || same(name, pick(0, 1), 0, 0);
            case "count" -> same(name, pick(0, 10), 0, 0);
            case "run" -> same(name, 0, 0, 0) && (random.nextInt(3) == 0 || same("clear", 0, 0, 0));
            case "clear" -> same(name, 0, 0, 0);
            default -> same(name, s, pick(0, 4), 0);
        };
    }

    public static void main(String[] args) {
        int runs = args.length > 0 ? Integer.parseInt(args[0]) : RUNS;
        int failed = 0;
        for (int seed = 0; seed < runs && failed < 3; seed++) {
            ModelTest test = new ModelTest(seed);
            boolean good = true;
            while (good && test.trace.size() < CALLS) {
                good = test.step();
            }
            failed += good ? 0 : 1;
        }
        System.out.println(failed == 0 ? "the class and the model agree" : failed + " runs differ");
        if (failed != 0) {
            System.exit(1);
        }
    }
}
