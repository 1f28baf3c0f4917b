import java.io.IOException;
import java.lang.reflect.Field;
import java.lang.reflect.Method;
import java.lang.reflect.Modifier;
import java.nio.file.Files;
import java.nio.file.Path;
import java.util.ArrayList;
import java.util.List;
import java.util.Set;
import java.util.TreeSet;
import java.util.regex.Matcher;
import java.util.regex.Pattern;

/**
 * What is read out of the texts themselves, so that nothing is copied wrongly: the public face and the constants of
 * ../shared/DOC.md, its four examples, call by call, and the examples of README.md, which have to be among them.
 */
public final class DocumentTest {
    private static final Path DOCUMENT = Path.of("../shared/DOC.md");
    private static final Path README = Path.of("README.md");
    /** How many calls the examples have: a call that is not found in the text would not be missed otherwise. */
    private static final int[] CALLS_OF_EXAMPLES = {10, 14, 15, 15};
    private static final int METHODS = 37;

    private static final Pattern NEW_OBJECT = Pattern.compile("new LeaseCluster\\((-?\\d+)\\)");
    private static final Pattern CALL_IN_DOCUMENT = Pattern.compile("(\\w+)\\(([-\\d, ]*)\\) = (-?\\d+)");
    private static final Pattern CALL_IN_README =
            Pattern.compile("cluster\\.(\\w+)\\(([-\\d, ]*)\\);\\s+// (-?\\d+)(?!\\d)");

    private static int checks = 0;
    private static int wrong = 0;

    record Call(String name, List<Integer> arguments, int due) {
        @Override
        public String toString() {
            return name + arguments.toString().replace('[', '(').replace(']', ')');
        }
    }

    record Example(int doubt, List<Call> calls) { }

    private static void check(boolean holds, String otherwise) {
        checks++;
        if (!holds) {
            wrong++;
            System.out.println(otherwise);
        }
    }

    public static void main(String[] args) throws Exception {
        String document = Files.readString(DOCUMENT);
        checkFace(section(document, "The public face"));
        checkConstants(section(document, "The public face"));
        checkConstants(section(document, "Terms"));
        List<Example> examples = examplesIn(section(document, "Terms"), CALL_IN_DOCUMENT);
        check(examples.size() == CALLS_OF_EXAMPLES.length, "the document has " + examples.size() + " examples");
        for (int i = 0; i < examples.size() && i < CALLS_OF_EXAMPLES.length; i++) {
            int calls = examples.get(i).calls().size();
            check(calls == CALLS_OF_EXAMPLES[i], "example " + (i + 1) + " was read with " + calls + " calls");
            makeCalls("example " + (i + 1), examples.get(i));
        }
        checkReadme(examples);
        System.out.println(checks + " checks of what the texts say, " + wrong + " wrong");
        if (wrong != 0) {
            System.exit(1);
        }
    }

    /** The words of a section on one line; the fences in it stand in the midst of sentences. */
    private static String section(String document, String title) {
        for (String part : document.split("(?m)^## ")) {
            if (part.startsWith(title + "\n")) {
                return part.replaceAll("(?m)^```.*$", "").replaceAll("\\s+", " ");
            }
        }
        check(false, "the document has no section " + title);
        return "";
    }

    // ---- the face

    private static void checkFace(String face) {
        Set<String> due = new TreeSet<>();
        Matcher declared = Pattern.compile("public (int|long) (\\w+)\\(([^)]*)\\);").matcher(face);
        while (declared.find()) {
            String types = declared.group(3).replaceAll(" \\w+(?=,|$)", "").replace(" ", "");
            due.add(declared.group(1) + " " + declared.group(2) + "(" + types + ")");
        }
        check(due.size() == METHODS, "the document was read with the methods " + due);
        Set<String> found = new TreeSet<>();
        for (Method method : LeaseCluster.class.getDeclaredMethods()) {
            if (Modifier.isPublic(method.getModifiers())) {
                found.add(method.getReturnType() + " " + method.getName() + "(" + types(method) + ")");
            }
        }
        check(found.equals(due), "the methods are " + found + ", due are " + due);
        check(face.contains("public LeaseCluster(int doubt);") && LeaseCluster.class.getConstructors().length == 1
                && LeaseCluster.class.getConstructors()[0].getParameterTypes()[0] == int.class, "the constructor");
    }

    private static String types(Method method) {
        List<String> names = new ArrayList<>();
        for (Class<?> type : method.getParameterTypes()) {
            names.add(type.getName());
        }
        return String.join(",", names);
    }

    /** Asks the class for its constants while it runs: javac would put their values into the test. */
    private static void checkConstants(String text) throws IllegalAccessException {
        Set<String> due = new TreeSet<>();
        Matcher value = Pattern.compile("\\b(NONE|BAD|STATE|FULL) = (-\\d+)").matcher(text);
        while (value.find()) {
            due.add(value.group(1) + " = " + value.group(2));
        }
        Set<String> found = new TreeSet<>();
        for (Field field : LeaseCluster.class.getFields()) {
            found.add(field.getName() + " = " + field.getInt(null));
        }
        check(due.size() == 4 && found.equals(due), "the constants are " + found + ", due are " + due);
    }

    // ---- examples

    private static List<Example> examplesIn(String text, Pattern call) {
        List<Example> found = new ArrayList<>();
        Matcher begin = NEW_OBJECT.matcher(text);
        while (begin.find()) {
            Matcher next = NEW_OBJECT.matcher(text);
            int end = next.find(begin.end()) ? next.start() : text.length();
            Matcher one = call.matcher(text.substring(begin.end(), end));
            List<Call> calls = new ArrayList<>();
            while (one.find()) {
                calls.add(new Call(one.group(1), numbersIn(one.group(2)), Integer.parseInt(one.group(3))));
            }
            found.add(new Example(Integer.parseInt(begin.group(1)), calls));
        }
        return found;
    }

    private static List<Integer> numbersIn(String arguments) {
        List<Integer> numbers = new ArrayList<>();
        for (String one : arguments.split(",")) {
            if (!one.isBlank()) {
                numbers.add(Integer.parseInt(one.trim()));
            }
        }
        return numbers;
    }

    private static void makeCalls(String name, Example example) throws ReflectiveOperationException {
        LeaseCluster x = new LeaseCluster(example.doubt());
        for (Call call : example.calls()) {
            Class<?>[] types = new Class<?>[call.arguments().size()];
            java.util.Arrays.fill(types, int.class);
            Method method = LeaseCluster.class.getMethod(call.name(), types);
            long got = ((Number) method.invoke(x, call.arguments().toArray())).longValue();
            check(got == call.due(), name + ": " + call + " answered " + got + ", due is " + call.due());
        }
    }

    // ---- README.md

    /** An example there may leave out calls at its end, but shows no answer that the document does not give. */
    private static void checkReadme(List<Example> examples) throws IOException, ReflectiveOperationException {
        List<Example> shown = examplesIn(Files.readString(README), CALL_IN_README);
        check(shown.size() >= 2, "README.md shows only " + shown.size() + " objects");
        for (Example one : shown) {
            String name = "README.md, new LeaseCluster(" + one.doubt() + ")";
            check(!one.calls().isEmpty(), name + " has no calls");
            check(isGiven(one, examples), name + " has calls or answers that the document does not give");
            makeCalls(name, one);
        }
    }

    private static boolean isGiven(Example shown, List<Example> examples) {
        for (Example example : examples) {
            int calls = Math.min(shown.calls().size(), example.calls().size());
            if (shown.doubt() == example.doubt() && shown.calls().equals(example.calls().subList(0, calls))) {
                return true;
            }
        }
        return false;
    }
}
