import java.lang.management.ManagementFactory;
import java.lang.reflect.Constructor;
import java.lang.reflect.Field;
import java.lang.reflect.Method;
import java.lang.reflect.Modifier;
import java.nio.file.Files;
import java.nio.file.Path;
import java.util.ArrayList;
import java.util.List;
import java.util.TreeSet;
import java.util.regex.Matcher;
import java.util.regex.Pattern;

/** The face of the class, and those rules of LANGUAGE.md that can be seen from outside it or in its source. */
public final class RulesTest {
    private static final Checks checks = new Checks();

    private static final String FACE = "day(int) home(int,int,int) member(int) family(int,int) right(int,int,int,int)"
        + " join(int,int) end(int) leave(int) rightTold(int,int) inForce(int,int,int) homeTold(int,int) memberTold(int,int)"
        + " feed(int,long) propose() fault(int) vote(int,int,boolean) carry(int,int) tear(int) textTold(int,int) text(int)"
        + " wait(int) long:points(int,int,int) order(int,int) offer(int) take(int,boolean) withdraw(int)"
        + " wish(int,int,boolean) best() moves(int) change() cost(int) parted(int,int) long:pay(int,int) year(int,int)"
        + " gain(int) due() long:fund(int,int) count(int) put(int,int,int) forge(int,int,int) status()";

    private static final List<String> LIBRARY = List.of("System.arraycopy", "Arrays.copyOf", "Math.min", "Math.max",
        "Math.floorMod", "Integer.bitCount");

    public static void main(String[] args) throws Exception {
        face();
        insides();
        source(Files.readString(Path.of(args[0])));
        room();
        checks.finish("RulesTest");
    }

    private static void face() {
        Class<?> c = HousingSociety.class;
        checks.due("the class is public and final", c.getModifiers(), Modifier.PUBLIC | Modifier.FINAL);
        TreeSet<String> methods = new TreeSet<>();
        for (Method m : c.getDeclaredMethods()) {
            if (Modifier.isPublic(m.getModifiers())) {
                checks.due(m.getName() + " is of objects", Modifier.isStatic(m.getModifiers()) ? 1 : 0, 0);
                methods.add(told(m));
            }
        }
        checks.same("public methods", methods.toString(), new TreeSet<>(List.of(FACE.split(" "))).toString());
        Constructor<?>[] constructors = c.getDeclaredConstructors();
        checks.due("constructors", constructors.length, 1);
        checks.due("the constructor is public", constructors[0].getModifiers(), Modifier.PUBLIC);
        TreeSet<String> constants = new TreeSet<>();
        for (Field f : c.getDeclaredFields()) {
            if (!Modifier.isPrivate(f.getModifiers())) {
                constants.add(f.getType() + " " + f.getName());
                checks.due(f.getName() + " is a public constant", f.getModifiers(),
                    Modifier.PUBLIC | Modifier.STATIC | Modifier.FINAL);
            }
        }
        checks.same("public constants", constants.toString(), "[int BAD, int FULL, int NONE, int STATE, long NO]");
        checks.due("NONE", HousingSociety.NONE, -1);
        checks.due("BAD", HousingSociety.BAD, -2);
        checks.due("STATE", HousingSociety.STATE, -3);
        checks.due("FULL", HousingSociety.FULL, -4);
        checks.due("NO", HousingSociety.NO, -4611686018427387904L);
    }

    private static String told(Method m) {
        StringBuilder types = new StringBuilder();
        for (Class<?> t : m.getParameterTypes()) {
            types.append(types.length() == 0 ? "" : ",").append(t);
        }
        String answer = m.getReturnType() == int.class ? "" : m.getReturnType() + ":";
        return answer + m.getName() + "(" + types + ")";
    }

    private static void insides() {
        TreeSet<String> publicNames = new TreeSet<>();
        for (Method m : HousingSociety.class.getDeclaredMethods()) {
            boolean isPublic = Modifier.isPublic(m.getModifiers());
            checks.due(m.getName() + " is public or private", isPublic || Modifier.isPrivate(m.getModifiers()) ? 1 : 0, 1);
            if (isPublic) {
                publicNames.add(m.getName());
            }
        }
        List<Class<?>> classes = new ArrayList<>(List.of(HousingSociety.class.getDeclaredClasses()));
        checks.due("twelve classes at most", classes.size() + 1 <= 12 ? 1 : 0, 1);
        classes.forEach(c -> checks.due(c + " is static", Modifier.isStatic(c.getModifiers()) ? 1 : 0, 1));
        classes.add(HousingSociety.class);
        for (Class<?> c : classes) {
            int fields = 0;
            for (Field f : c.getDeclaredFields()) {
                boolean isStatic = Modifier.isStatic(f.getModifiers());
                fields += isStatic ? 0 : 1;
                checks.due(f + " is final, if static", isStatic && !Modifier.isFinal(f.getModifiers()) ? 1 : 0, 0);
            }
            checks.due(c + " has twenty fields at most", fields <= 20 ? 1 : 0, 1);
            for (Method m : c.getDeclaredMethods()) {
                checks.due(m + " has seven parameters at most", m.getParameterCount() <= 7 ? 1 : 0, 1);
                if (!Modifier.isPublic(m.getModifiers())) {
                    checks.due(m + " has a public one's name", publicNames.contains(m.getName()) ? 1 : 0, 0);
                }
            }
        }
    }

    private static void source(String whole) {
        String code = whole.replaceAll("(?s)/\\*.*?\\*/", "").replaceAll("//[^\n]*", "").replaceAll("\"[^\"]*\"", "\"\"");
        String[] words = {"throw", "throws", "try", "catch", "finally", "synchronized", "assert", "package", "Random", "Thread",
            "Object", "hashCode", "toString", "nanoTime", "currentTimeMillis", "\\w+Exact", "protected", "double", "float"};
        for (String word : words) {
            checks.due("the word " + word, Pattern.compile("\\b" + word + "\\b").matcher(code).find() ? 1 : 0, 0);
        }
        checks.due("lambdas", code.contains("->") ? 1 : 0, 0);
        checks.due("method references", code.contains("::") ? 1 : 0, 0);
        Matcher imports = Pattern.compile("import ([^;]*);").matcher(code);
        while (imports.find()) {
            checks.same("import", imports.group(1), "java.util.Arrays");
        }
        library(code);
        checks.due("plain characters alone", whole.chars().allMatch(c -> c < 128) ? 1 : 0, 1);
        methodsAreShort(code);
    }

    /** Of the library nothing is used but what the rules list. */
    private static void library(String code) {
        Matcher calls = Pattern.compile("\\b(System|Arrays|Math|Integer|Long|String)\\.(\\w+)").matcher(code);
        while (calls.find()) {
            checks.due(calls.group() + " is listed", LIBRARY.contains(calls.group()) ? 1 : 0, 1);
        }
        Matcher classes = Pattern.compile("\\b(Character|Byte|Short|Boolean|Double|Float|Objects?|Iterable|Iterator|Optional"
            + "|Runtime|Class|List|ArrayList|Collections|StringBuilder|var|native|volatile|transient|yield)\\b").matcher(code);
        checks.due("another class of the library", classes.find() ? 1 : 0, 0);
    }

    private static void methodsAreShort(String code) {
        int length = 0;
        boolean isInside = false;
        for (String line : code.split("\n")) {
            boolean begins = line.matches(" {4}( {4})?\\S.*\\) \\{");
            boolean ends = line.matches(" {4}( {4})?}");
            length = begins && !isInside ? 0 : length + 1;
            isInside = begins || isInside && !ends;
            checks.due("a method of more than sixty lines at " + line, isInside && length > 60 ? 1 : 0, 0);
        }
    }

    /** A run keeps all that it makes, so a call that makes something each time would fill the room. */
    private static void room() {
        com.sun.management.ThreadMXBean threads = (com.sun.management.ThreadMXBean) ManagementFactory.getThreadMXBean();
        HousingSociety x = Checks.society(12, 24);
        for (int i = 0; i < 24; i++) {
            x.right(0, i, i, 0);
            x.wait(i);
            x.wish(i, (i + 1) % 12, true);
        }
        long all = 0;
        for (int round = 0; round < 2; round++) {
            long before = threads.getThreadAllocatedBytes(Thread.currentThread().getId());
            for (int i = 0; i < 512; i++) {
                x.best();
                x.order(0, i % 24);
                x.cost(i);
                x.put(i % 6, i % 5, i);
                x.forge(i % 6, i % 9, i % 12);
                x.due();
                x.feed(8, i);
                x.propose();
            }
            all = threads.getThreadAllocatedBytes(Thread.currentThread().getId()) - before;
        }
        checks.due("512 rounds make little, not " + all + " bytes", all < 100000 ? 1 : 0, 1);
    }
}
