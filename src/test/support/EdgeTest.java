import java.io.IOException;
import java.lang.reflect.Array;
import java.lang.reflect.Field;
import java.nio.file.Files;
import java.nio.file.Path;
import java.util.ArrayList;
import java.util.LinkedHashMap;
import java.util.List;
import java.util.Map;
import java.util.function.Supplier;
import java.util.function.ToLongFunction;

/**
 * The frame of the edge tests. A test bears the section of ../shared/DOC.md and the words in it that it is for, and
 * what is wrong is told with both. The frame looks the words up in the document, and fails if a section that is
 * begun has words that neither a test nor noEdge() quotes: so no sentence is passed over.
 */
abstract class EdgeTest {
    static final int NONE = -1000, BAD = -1001, STATE = -1002, FULL = -1003;
    static final int MIN = Integer.MIN_VALUE, MAX = Integer.MAX_VALUE;

    private static final Path DOCUMENT = Path.of("../shared/DOC.md");
    private static final int SHOWN = 60;

    private static final Map<String, String> texts = readDocument();
    private static final Map<String, boolean[]> quoted = new LinkedHashMap<>();
    private static String section = "";
    private static String sentence = "";
    private static int tests = 0;
    private static int checks = 0;
    private static int wrong = 0;

    /** A call with the argument that is at the edge. */
    interface At {
        long answer(LeaseCluster x, int argument);
    }

    // ---- the document

    private static Map<String, String> readDocument() {
        Map<String, String> found = new LinkedHashMap<>();
        try {
            String all = Files.readString(DOCUMENT).replaceAll("(?m)^```.*$", "");
            for (String part : all.split("(?m)^## ")) {
                int end = part.indexOf('\n');
                found.put(part.substring(0, end).trim(), part.substring(end).replaceAll("\\s+", " ").trim());
            }
        } catch (IOException e) {
            System.out.println(DOCUMENT + " cannot be read: " + e);
        }
        return found;
    }

    /** Begins a section all of whose words are to be quoted. */
    static void section(String title) {
        section = title;
        sentence = "";
        if (texts.isEmpty()) {
            return;
        }
        if (!texts.containsKey(title)) {
            fault("the document has no such section");
            return;
        }
        boolean[] marks = new boolean[texts.get(title).length()];
        if (title.startsWith("Promise")) {
            // The declaration that stands first is for FaceTest.
            java.util.Arrays.fill(marks, 0, texts.get(title).indexOf("`:"), true);
        }
        quoted.put(title, marks);
    }

    /** Begins a section of which only what is tested is quoted. */
    static void partOf(String title) {
        section(title);
        quoted.remove(title);
    }

    static List<String> sections() {
        return new ArrayList<>(texts.keySet());
    }

    static void test(String words, Runnable body) {
        quote(words);
        tests++;
        body.run();
        sentence = "";
    }

    /** Words that name no edge. */
    static void noEdge(String words) {
        quote(words);
        sentence = "";
    }

    private static void quote(String words) {
        sentence = words;
        if (texts.isEmpty()) {
            return;
        }
        String text = texts.getOrDefault(section, "");
        int at = text.indexOf(words);
        if (at < 0) {
            fault("the section does not say this");
        }
        boolean[] marks = quoted.get(section);
        while (at >= 0 && marks != null) {
            java.util.Arrays.fill(marks, at, at + words.length(), true);
            at = text.indexOf(words, at + 1);
        }
    }

    private static void lookForUnquoted(String title, boolean[] marks) {
        section = title;
        sentence = "";
        String text = texts.get(title);
        for (int at = 0; at < marks.length; at++) {
            if (!marks[at] && Character.isLetterOrDigit(text.charAt(at))) {
                fault("no test quotes: " + text.substring(at, Math.min(text.length(), at + SHOWN)));
                return;
            }
        }
    }

    static void finish() {
        if (texts.isEmpty()) {
            fault("the document is not there, so no words were looked up");
        }
        for (Map.Entry<String, boolean[]> one : quoted.entrySet()) {
            lookForUnquoted(one.getKey(), one.getValue());
        }
        System.out.println(checks + " checks of " + tests + " sentences, " + wrong + " wrong");
        if (wrong != 0) {
            System.exit(1);
        }
    }

    // ---- checks

    static void fault(String what) {
        wrong++;
        System.out.println(section + " | " + sentence + " | " + what);
    }

    static void due(String call, long got, long want) {
        checks++;
        if (got != want) {
            fault(call + " answered " + got + ", due is " + want);
        }
    }

    static void dueAll(String call, long[] got, long... want) {
        due("the number of answers of " + call, got.length, want.length);
        for (int i = 0; i < got.length && i < want.length; i++) {
            due(call + ", answer " + i, got[i], want[i]);
        }
    }

    /** The call answers the error, and changes nothing: a twin without the call answers the same ever after. */
    static void refused(Supplier<LeaseCluster> state, String call, ToLongFunction<LeaseCluster> made, int error) {
        LeaseCluster x = state.get();
        due(call, made.applyAsLong(x), error);
        sameAsTwin(state, "after " + call, x);
    }

    /** The call changes nothing, whatever it answers. */
    static void silent(Supplier<LeaseCluster> state, String call, ToLongFunction<LeaseCluster> made) {
        LeaseCluster x = state.get();
        made.applyAsLong(x);
        sameAsTwin(state, "after " + call, x);
    }

    private static void sameAsTwin(Supplier<LeaseCluster> state, String when, LeaseCluster x) {
        List<Long> got = observe(x);
        List<Long> want = observe(state.get());
        checks++;
        if (!got.equals(want)) {
            fault(when + " the object answers " + got + ", but without it " + want);
        }
    }

    /** Both ends of a range are taken with the answers given; what is outside of it is BAD and changes nothing. */
    static void range(Supplier<LeaseCluster> state, String call, int least, long atLeast, int most, long atMost,
            At made) {
        due(call + " with " + least, made.answer(state.get(), least), atLeast);
        due(call + " with " + most, made.answer(state.get(), most), atMost);
        for (int outside : new int[] {least - 1, most + 1, MIN, MAX}) {
            refused(state, call + " with " + outside, x -> made.answer(x, outside), BAD);
        }
    }

    /** The servers 0 and 4 are taken with the answers given; -1 and 5 and what is farther off are BAD. */
    static void servers(Supplier<LeaseCluster> state, String call, long of0, long of4, At made) {
        range(state, call, 0, of0, 4, of4, made);
    }

    // ---- what an object shows

    /** Answers that show all that an object holds; the object is used up by it. */
    static List<Long> observe(LeaseCluster x) {
        List<Long> seen = new ArrayList<>();
        for (int i = 0; i <= x.count(8); i++) {
            seen.add((long) x.result(i));
        }
        observeWorld(x, seen);
        seen.add((long) x.run());
        seen.add(x.digest());
        seen.add((long) x.clear());
        for (int k = 0; k < 2; k++) {
            if (x.restore(k) == STATE) {
                seen.add((long) STATE);
            } else {
                observeWorld(x, seen);
            }
        }
        return seen;
    }

    /** The digest, and what it does not show: offsets, links, the history, messages and what is owed. */
    private static void observeWorld(LeaseCluster x, List<Long> seen) {
        seen.add(x.digest());
        for (int s = 0; s < 5; s++) {
            seen.add((long) x.clock(s, 1));
        }
        observeLinks(x, seen);
        for (int key = 0; key < 8; key++) {
            int value = 0;
            for (int i = 0; value != NONE; i++) {
                value = x.history(key, i);
                seen.add((long) value);
            }
        }
        for (int message = 0; message < x.count(5); message++) {
            seen.add((long) x.deliver(message));
        }
        seen.add(x.digest());
        seen.add((long) x.pass(3));
        seen.add((long) x.pass(100));
        seen.add(x.digest());
    }

    private static void observeLinks(LeaseCluster x, List<Long> seen) {
        for (int a = 0; a < 5; a++) {
            for (int b = a + 1; b < 5; b++) {
                int up = x.setLink(a, b, true);
                seen.add((long) up);
                if (up == 0) {
                    x.setLink(a, b, false);
                }
            }
        }
    }

    // ---- states

    static LeaseCluster typed(LeaseCluster x, String text) {
        for (int i = 0; i < text.length(); i++) {
            x.type(text.charAt(i));
        }
        return x;
    }

    /** What run() answers to a text, on a new object. */
    static int runOf(String text) {
        return typed(new LeaseCluster(0), text).run();
    }

    /** Cuts a server off from all others, or mends all of its links. */
    static void links(LeaseCluster x, int server, boolean up) {
        for (int v = 0; v < 5; v++) {
            if (v != server) {
                x.setLink(server, v, up);
            }
        }
    }

    static void state(LeaseCluster x, int state, int... servers) {
        for (int s : servers) {
            x.setState(s, state);
        }
    }

    static long[] reasons(LeaseCluster x) {
        return new long[] {x.reason(0), x.reason(1), x.reason(2), x.reason(3), x.reason(4)};
    }

    static long[] known(LeaseCluster x, int server) {
        return new long[] {x.known(server, 0), x.known(server, 1), x.known(server, 2), x.known(server, 3),
            x.known(server, 4)};
    }

    static long[] log(LeaseCluster x, int server) {
        return new long[] {x.log(server, 0), x.log(server, 1), x.log(server, 2), x.log(server, 3),
            x.log(server, 4)};
    }

    static LeaseCluster fresh() {
        return new LeaseCluster(2);
    }

    /** Server 0 leads with the term 1 until 100; the doubt is 0. */
    static LeaseCluster led() {
        LeaseCluster x = new LeaseCluster(0);
        x.acquire(0, 100);
        return x;
    }

    /**
     * Nothing is as at first: the doubt is 2, the time 6, server 1 (a tick slow) leads with the term 2 until 65 and 4
     * is paused, the link between 2 and 4 is cut. Three entries with the timestamps 2, 8 and 9 are committed, one
     * of them is acknowledged, and 0 and 1 have one more each to give. Of three messages 2 was accepted, 0 refused,
     * and 1 is on its way. There are a text, two results, and a snapshot 0.
     */
    static LeaseCluster busy() {
        LeaseCluster x = new LeaseCluster(2);
        x.setClock(1, -1);
        x.acquire(0, 10);
        x.send(0, 1, 50);
        x.send(0, 1, 51);
        x.write(0, 3, 33);
        x.save(0);
        x.pass(6);
        x.write(0, 4, 44);
        x.handOver(0, 1, 60);
        x.send(1, 1, 52);
        x.deliver(2);
        x.deliver(0);
        x.setLink(2, 4, false);
        x.setState(4, 1);
        x.barrier(1);
        typed(x, "g3;c9 9;").run();
        x.clear();
        return typed(x, "w1 3 77;p2;");
    }

    /** The log of the leader 0 has 40 entries, its lease lasts until 100. */
    static LeaseCluster fullLog() {
        LeaseCluster x = led();
        for (int i = 0; i < 40; i++) {
            x.write(0, i % 8, i);
        }
        return x;
    }

    /** There are 20 messages of the leader 0, to all cells. */
    static LeaseCluster fullStore() {
        LeaseCluster x = led();
        for (int i = 0; i < 20; i++) {
            x.send(0, i % 4, 100 + i);
        }
        return x;
    }

    /** The text has 100 bytes: 33 calls and a blank. */
    static LeaseCluster fullText() {
        return typed(new LeaseCluster(0), "p1;".repeat(33) + " ");
    }

    /** The true time is 100000 less some ticks. Scenarios take it there with few calls. */
    static LeaseCluster late(int ticksBefore) {
        LeaseCluster x = typed(new LeaseCluster(0), "p200;".repeat(20));
        for (int i = 0; i < 24; i++) {
            x.run();
        }
        x.clear();
        for (int i = 0; i < 19; i++) {
            x.pass(200);
        }
        x.pass(200 - ticksBefore);
        return x;
    }

    // ---- states that no calls lead to

    /** What is inside of an object, along the names of fields and the numbers of elements. */
    static Object inside(Object from, String... path) {
        Object at = from;
        try {
            for (String step : path) {
                at = at.getClass().isArray() ? Array.get(at, Integer.parseInt(step)) : field(at, step).get(at);
            }
        } catch (ReflectiveOperationException e) {
            fault("the inside of the class is not as the test knows it: " + e);
        }
        return at;
    }

    static void put(Object inside, String name, int number) {
        try {
            field(inside, name).setInt(inside, number);
        } catch (ReflectiveOperationException e) {
            fault("the inside of the class is not as the test knows it: " + e);
        }
    }

    private static Field field(Object of, String name) throws ReflectiveOperationException {
        Field found = of.getClass().getDeclaredField(name);
        found.setAccessible(true);
        return found;
    }
}
