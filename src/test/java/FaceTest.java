import java.lang.reflect.Constructor;
import java.lang.reflect.Field;
import java.lang.reflect.Method;
import java.lang.reflect.Modifier;
import java.nio.file.Files;
import java.nio.file.Path;
import java.util.ArrayList;
import java.util.Arrays;
import java.util.List;
import java.util.Set;
import java.util.TreeSet;
import java.util.regex.Matcher;
import java.util.regex.Pattern;

/** The public face is that of the document and nothing else, and the source has none of the words it may not have. */
public final class FaceTest {
    private static final String[] METHODS = {
        "int setClock(int,int)", "int clock(int,int)", "int pass(int)", "int setState(int,int)",
        "int setLink(int,int,boolean)", "int acquire(int,int)", "int renew(int,int)", "int giveUp(int)",
        "int handOver(int,int,int)", "int reason(int)", "int holds(int)", "int known(int,int)",
        "int write(int,int,int)", "int barrier(int)", "int read(int,int)", "int readAt(int,int,int)",
        "int log(int,int)", "int entry(int,int,int)", "int agreement(int,int)", "int history(int,int)",
        "int acknowledgement(int,int)", "int send(int,int,int)", "int deliver(int)", "int cell(int,int)",
        "int safeFor(int)", "int waitFor(int)", "int leastCrashes()", "int staleKeys(int)", "int isSafe()",
        "int type(int)", "int clear()", "int run()", "int result(int)", "int save(int)", "int restore(int)",
        "int count(int)", "long digest()"};
    private static final String FORBIDDEN =
            "\\b(throw|throws|try|catch|synchronized|assert|volatile|native|import|package|null)\\b|->|::|Exact\\b";

    private static final List<String> wrong = new ArrayList<>();

    private static void check(boolean holds, String what) {
        if (!holds) {
            wrong.add(what);
        }
    }

    public static void main(String[] args) throws Exception {
        checkMethods();
        checkFieldsAndConstructor();
        checkClassesInside();
        checkWords();
        for (String line : wrong) {
            System.out.println(line);
        }
        System.out.println(wrong.isEmpty() ? "the face is as due" : wrong.size() + " faults of the face");
        if (!wrong.isEmpty()) {
            System.exit(1);
        }
    }

    private static String signature(Method method) {
        StringBuilder text = new StringBuilder(method.getReturnType().getName());
        text.append(' ').append(method.getName()).append('(');
        for (int i = 0; i < method.getParameterCount(); i++) {
            text.append(i == 0 ? "" : ",").append(method.getParameterTypes()[i].getName());
        }
        return text.append(')').toString();
    }

    private static void checkMethods() {
        Set<String> due = new TreeSet<>(Arrays.asList(METHODS));
        Set<String> names = new TreeSet<>();
        Set<String> found = new TreeSet<>();
        for (String method : METHODS) {
            names.add(method.substring(method.indexOf(' ') + 1, method.indexOf('(')));
        }
        for (Method method : LeaseCluster.class.getDeclaredMethods()) {
            if (Modifier.isPrivate(method.getModifiers())) {
                check(!names.contains(method.getName()), "private " + method + " bears the name of a public one");
            } else {
                found.add(signature(method));
                check(Modifier.isPublic(method.getModifiers()), method + " is not public");
                check(!Modifier.isStatic(method.getModifiers()), method + " is static");
                check(method.getExceptionTypes().length == 0, method + " declares an exception");
            }
        }
        check(found.equals(due), "methods are " + found + ", due are " + due);
        for (Class<?> inside : LeaseCluster.class.getDeclaredClasses()) {
            for (Method method : inside.getDeclaredMethods()) {
                check(!names.contains(method.getName()), method + " bears the name of a public one");
                check(method.getParameterCount() <= 7, method + " has too many parameters");
            }
        }
    }

    private static void checkFieldsAndConstructor() {
        check(Modifier.isPublic(LeaseCluster.class.getModifiers()), "the class is not public");
        check(Modifier.isFinal(LeaseCluster.class.getModifiers()), "the class is not final");
        Constructor<?>[] constructors = LeaseCluster.class.getDeclaredConstructors();
        check(constructors.length == 1 && Modifier.isPublic(constructors[0].getModifiers())
                && Arrays.equals(constructors[0].getParameterTypes(), new Class<?>[] {int.class}), "constructors");
        Set<String> open = new TreeSet<>();
        for (Field field : LeaseCluster.class.getDeclaredFields()) {
            int is = field.getModifiers();
            check(!Modifier.isStatic(is) || Modifier.isFinal(is), field + " is static, but not final");
            if (!Modifier.isPrivate(is)) {
                open.add(field.getName());
                check(Modifier.isPublic(is) && Modifier.isStatic(is) && field.getType() == int.class, "" + field);
            }
        }
        check(open.equals(new TreeSet<>(Arrays.asList("NONE", "BAD", "STATE", "FULL"))), "constants are " + open);
    }

    private static void checkClassesInside() {
        Class<?>[] inside = LeaseCluster.class.getDeclaredClasses();
        check(inside.length < 12, "too many classes");
        for (Class<?> one : inside) {
            int is = one.getModifiers();
            check(Modifier.isStatic(is) && !Modifier.isPublic(is) && !Modifier.isProtected(is), "" + one);
            check(one.getDeclaredFields().length <= 20, one + " has too many fields");
        }
    }

    private static void checkWords() throws Exception {
        String source = Files.readString(Path.of("src/main/java/LeaseCluster.java"));
        String code = source.replaceAll("(?s)/\\*.*?\\*/", " ").replaceAll("//[^\n]*", " ");
        Matcher word = Pattern.compile(FORBIDDEN).matcher(code);
        while (word.find()) {
            check(false, "the source has '" + word.group() + "'");
        }
    }
}
