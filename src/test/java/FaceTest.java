import java.lang.reflect.Constructor;
import java.lang.reflect.Field;
import java.lang.reflect.Method;
import java.lang.reflect.Modifier;
import java.nio.file.Files;
import java.nio.file.Path;
import java.util.ArrayList;
import java.util.List;
import java.util.Set;
import java.util.TreeSet;
import java.util.regex.Matcher;
import java.util.regex.Pattern;

/** The public face, just as the document has it, and rules of LANGUAGE.md that can be looked up. */
public final class FaceTest {
    private static final List<String> METHODS = List.of("write(int)", "wipe()", "fault()", "lay()", "task(int,int)",
        "helper(int,int)", "help(int)", "befriend(int)", "ride(int)", "suggest(int)", "handUp(int)", "undo()",
        "mayCome()", "well(int)", "fewest(int)", "step(int)", "worth(int,int)", "see(int,int)", "forget()",
        "rows(int)", "forWhat(int)", "grooms(int,int)", "king(int,int,int)", "keep()", "back()", "count(int)");
    private static final List<String> NOT_TO_BE_USED = List.of("throw", "finally", "synchronized", "assert", "->", "::",
        "import", "package", "protected", "catch", "System.", "Random", "Thread", "static {", "null");
    private static final Due due = new Due("FaceTest");

    public static void main(String[] args) throws Exception {
        face();
        insideClasses();
        source(Files.readString(Path.of(args[0])));
        makesNothingInCalls();
        makesLittleAtFirst();
        due.end();
    }

    private static void face() {
        due.promise("face");
        Class<?> c = FeatherTasks.class;
        due.holds("public and final", Modifier.isPublic(c.getModifiers()) && Modifier.isFinal(c.getModifiers()));
        Set<String> found = new TreeSet<>();
        for (Method m : c.getDeclaredMethods()) {
            if (!Modifier.isPrivate(m.getModifiers())) {
                due.holds(m + " is a method of int", Modifier.isPublic(m.getModifiers())
                    && !Modifier.isStatic(m.getModifiers()) && m.getReturnType() == int.class);
                found.add(m.getName() + signature(m.getParameterTypes()));
            }
        }
        due.holds("methods " + found, found.equals(new TreeSet<>(METHODS)));
        Set<String> constants = new TreeSet<>();
        for (Field f : c.getDeclaredFields()) {
            int is = f.getModifiers();
            if (!Modifier.isPrivate(is)) {
                due.holds(f + " is a constant", is == (Modifier.PUBLIC | Modifier.STATIC | Modifier.FINAL));
                constants.add(f.getName());
            } else {
                due.holds(f + ": static fields are final", !Modifier.isStatic(is) || Modifier.isFinal(is));
            }
        }
        due.holds("constants " + constants, constants.equals(Set.of("BAD", "NO", "FULL", "NONE")));
        Constructor<?>[] constructors = c.getDeclaredConstructors();
        due.holds("one constructor", constructors.length == 1 && constructors[0].getParameterCount() == 0
            && Modifier.isPublic(constructors[0].getModifiers()));
    }

    private static String signature(Class<?>[] types) {
        List<String> names = new ArrayList<>();
        for (Class<?> type : types) {
            names.add(type.getName());
        }
        return "(" + String.join(",", names) + ")";
    }

    private static void insideClasses() {
        due.promise("LANGUAGE 1, 2, 11");
        Set<String> publicNames = new TreeSet<>();
        for (String method : METHODS) {
            publicNames.add(method.substring(0, method.indexOf('(')));
        }
        List<Class<?>> all = new ArrayList<>(List.of(FeatherTasks.class.getDeclaredClasses()));
        due.holds("twelve classes at most", all.size() + 1 <= 12);
        for (Class<?> inside : all) {
            due.holds(inside + " is static", Modifier.isStatic(inside.getModifiers()));
            due.holds(inside + " is not public", !Modifier.isPublic(inside.getModifiers()));
            due.holds(inside + " has twenty fields at most", fieldsOf(inside) <= 20);
            for (Method m : inside.getDeclaredMethods()) {
                due.holds(m + " has a name of its own", !publicNames.contains(m.getName()));
            }
        }
        due.holds("twenty fields at most", fieldsOf(FeatherTasks.class) <= 20);
        for (Method m : FeatherTasks.class.getDeclaredMethods()) {
            due.holds(m + " has seven parameters at most", m.getParameterCount() <= 7);
            due.holds(m + " has a name of its own",
                !Modifier.isPrivate(m.getModifiers()) || !publicNames.contains(m.getName()));
        }
    }

    private static int fieldsOf(Class<?> c) {
        int fields = 0;
        for (Field f : c.getDeclaredFields()) {
            fields += Modifier.isStatic(f.getModifiers()) ? 0 : 1;
        }
        return fields;
    }

    private static void source(String source) {
        due.promise("LANGUAGE 3, 4, 6, 10");
        String code = source.replaceAll("(?s)/\\*.*?\\*/", "").replaceAll("//[^\n]*", "");
        String bare = code.replaceAll("\"[^\"\n]*\"", "\"\"");
        for (String word : NOT_TO_BE_USED) {
            due.holds("no " + word, !bare.contains(word));
        }
        due.holds("no texts joined by +", !bare.contains("\" +") && !bare.contains("+ \""));
        Matcher calls = Pattern.compile("\\b(Math|Integer|Long|Arrays|String)\\.(\\w+)").matcher(bare);
        while (calls.find()) {
            due.holds(calls.group(), Set.of("Math.max", "Integer.bitCount").contains(calls.group()));
        }
        for (char letter : source.toCharArray()) {
            if (letter > 126) {
                due.holds("letter " + (int) letter, false);
            }
        }
        longestMethod(code);
    }

    private static void longestMethod(String code) {
        int lines = 0;
        for (String line : code.split("\n")) {
            lines = line.matches(" {4}( {4})?}") ? 0 : lines + 1;
            boolean opens = line.matches(" {4}( {4})?(public|private|boolean|int|long|void|static|[A-Z]\\w*\\().*\\{");
            lines = opens ? 1 : lines;
            boolean isField = line.matches(" {4}( {4})?\\S.*;");
            due.holds("a method of sixty lines at most, at " + line, isField || lines <= 60 || line.isBlank());
        }
    }

    /** A run has one room for all its calls, so what a call makes would add up. */
    private static void makesNothingInCalls() {
        due.promise("LANGUAGE 12");
        var threads = (com.sun.management.ThreadMXBean) java.lang.management.ManagementFactory.getThreadMXBean();
        long self = Thread.currentThread().getId();
        FeatherTasks x = new FeatherTasks();
        long sum = callAll(x);
        long before = threads.getThreadAllocatedBytes(self);
        for (int i = 0; i < 50; i++) {
            sum += callAll(x);
        }
        long made = threads.getThreadAllocatedBytes(self) - before;
        due.holds("made " + made + " bytes in 50 rounds, sum " + sum, made < 20000);
    }

    /** Elements of eight bytes at most: so 7.3 million of them are room for a thousand objects. */
    private static void makesLittleAtFirst() {
        var threads = (com.sun.management.ThreadMXBean) java.lang.management.ManagementFactory.getThreadMXBean();
        long self = Thread.currentThread().getId();
        long before = threads.getThreadAllocatedBytes(self);
        long sum = 0;
        for (int i = 0; i < 100; i++) {
            sum += new FeatherTasks().count(0);
        }
        long made = (threads.getThreadAllocatedBytes(self) - before) / 100;
        due.holds("made " + made + " bytes for an object, sum " + sum, made < 7300 * 8);
    }

    private static long callAll(FeatherTasks x) {
        long sum = x.wipe();
        String text = "t0,1,5,0;t3,1,0,1;t0,1,5,2;h0,1;h1,2;a0;a1;";
        for (int i = 0; i < text.length(); i++) {
            sum += x.write(text.charAt(i));
        }
        sum += x.fault() + x.lay() + x.task(0, 6) + x.helper(0, 1) + x.help(1) + x.befriend(0) + x.keep() + x.ride(0);
        sum += x.suggest(2) + x.handUp(2) + x.undo() + x.mayCome() + x.well(0) + x.well(1) + x.fewest(0) + x.step(1);
        sum += x.worth(1, 0) + x.worth(1, 1) + x.see(1, 1) + x.rows(0) + x.rows(1) + x.forget() + x.forWhat(1);
        return sum + x.grooms(5, 0) + x.king(7, 40, 0) + x.back() + x.count(5);
    }
}
