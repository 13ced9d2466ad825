import java.lang.reflect.Constructor;
import java.lang.reflect.Field;
import java.lang.reflect.Method;
import java.lang.reflect.Modifier;
import java.nio.file.Files;
import java.nio.file.Path;
import java.util.ArrayList;
import java.util.Arrays;
import java.util.HashSet;
import java.util.List;
import java.util.Map;
import java.util.Random;
import java.util.Set;
import java.util.TreeMap;
import java.util.TreeSet;
import java.util.regex.Matcher;
import java.util.regex.Pattern;

/** The public face, the rules of LANGUAGE.md that can be seen from outside, and what calls allocate. */
public final class RuleTests {
    private static final String FACE = "int person(int,int);boolean goal(int,int);int hand(int,int);"
        + "int feed(int,int,int,int,int);int end(int);int text();int fault(int);boolean by(int);boolean walk(int,boolean);"
        + "boolean pair(int,boolean,int,boolean);boolean shovel(int,int);int hour(int);int played(int);int years(int,int);"
        + "int undo();int of(int,int);int place(int,int);int is(int);int book(int,int);int foretold(int,int);"
        + "int tip(int,int);int errands(boolean,int);int where(boolean);int paid(boolean);int stand(int);int cat(int,int);"
        + "int quarrel(boolean);long orders();int order(int);int share(int,boolean);int slips(int,boolean);int halves(int);"
        + "int level(int);int swap(boolean);int send(int);int said(int,int);int whose();int free(int);int lone();"
        + "int heaviest();int travelled();int ledger(int);int image();int back();int about(int)";
    private static int wrong = 0;

    public static void main(String[] args) throws Exception {
        face();
        classes();
        source();
        depth();
        neverThrows();
        allocates();
        System.out.println(wrong == 0 ? "all rules are kept" : wrong + " rules are not kept");
        if (wrong != 0) {
            System.exit(1);
        }
    }

    private static void rule(boolean kept, String what) {
        if (!kept) {
            wrong++;
            System.out.println("not kept: " + what);
        }
    }

    private static void face() {
        Class<?> c = BoroughBeam.class;
        rule(Modifier.isPublic(c.getModifiers()) && Modifier.isFinal(c.getModifiers()), "the class is public and final");
        Set<String> found = new TreeSet<>();
        for (Method m : c.getDeclaredMethods()) {
            if (!Modifier.isPrivate(m.getModifiers()) && !m.isSynthetic()) {
                rule(Modifier.isPublic(m.getModifiers()), m.getName() + " is public");
                StringBuilder s = new StringBuilder(m.getReturnType() + " " + m.getName() + "(");
                for (Class<?> p : m.getParameterTypes()) {
                    s.append(s.charAt(s.length() - 1) == '(' ? "" : ",").append(p);
                }
                found.add(s.append(')').toString());
            }
        }
        rule(found.equals(new TreeSet<>(Arrays.asList(FACE.split(";")))), "the methods of the face: " + found);
        for (Field f : c.getDeclaredFields()) {
            rule(Modifier.isPrivate(f.getModifiers()) || f.getName().equals("NONE"), f.getName() + " is private");
        }
        Constructor<?>[] all = c.getDeclaredConstructors();
        rule(all.length == 1 && Modifier.isPublic(all[0].getModifiers()) && all[0].getParameterCount() == 0, "one constructor");
    }

    private static void classes() {
        List<Class<?>> all = new ArrayList<>(Arrays.asList(BoroughBeam.class.getDeclaredClasses()));
        rule(all.size() <= 11, "some twelve classes");
        Set<String> publics = new HashSet<>();
        for (Method m : BoroughBeam.class.getMethods()) {
            publics.add(m.getName());
        }
        for (Class<?> c : all) {
            rule(Modifier.isStatic(c.getModifiers()) && !Modifier.isPublic(c.getModifiers()), c + " is static, not public");
        }
        all.add(BoroughBeam.class);
        Set<Class<?>> constants = Set.of(int.class, long.class, boolean.class, char.class, String.class, int[].class,
            long[].class, char[].class, byte[].class);
        for (Class<?> c : all) {
            int fields = 0;
            for (Field f : c.getDeclaredFields()) {
                boolean isStatic = Modifier.isStatic(f.getModifiers());
                rule(!isStatic || Modifier.isFinal(f.getModifiers()) && constants.contains(f.getType()), f + " is a constant");
                fields += isStatic ? 0 : 1;
            }
            rule(fields <= 20, c + " has some twenty fields");
            for (Method m : c.getDeclaredMethods()) {
                rule(m.getParameterCount() <= 7, m + " has seven parameters at most");
                boolean own = c == BoroughBeam.class && Modifier.isPublic(m.getModifiers());
                rule(own || !publics.contains(m.getName()), m + " does not bear a public one's name");
            }
        }
    }

    private static String bare(String text) {
        return text.replaceAll("(?s)/\\*.*?\\*/", "").replaceAll("//[^\n]*", "").replaceAll("\"[^\"\n]*\"", "\"\"");
    }

    private static void source() throws Exception {
        String text = Files.readString(Path.of("src/main/java/BoroughBeam.java"));
        String code = bare(text);
        for (String word : new String[] {"throw", "throws", "try", "catch", "synchronized", "assert", "package", "double",
            "float", "record", "new Object", "hashCode", "toString", "protected", "volatile", "native", "Thread", "var"}) {
            rule(!Pattern.compile("\\b" + word + "\\b").matcher(code).find(), "no " + word);
        }
        rule(!code.contains("->") && !code.contains("::") && !code.contains("Exact"), "no lambda, no method reference, no ..Exact");
        rule(!Pattern.compile("\"\"\\s*\\+|\\+\\s*\"\"").matcher(code).find(), "no text joined by +");
        Matcher imports = Pattern.compile("import ([^;]*);").matcher(code);
        while (imports.find()) {
            rule(imports.group(1).equals("java.util.Arrays"), "import " + imports.group(1));
        }
        Matcher calls = Pattern.compile("\\b(System|Math|Integer|Long|Arrays)\\.(\\w+)").matcher(code);
        while (calls.find()) {
            rule(Set.of("arraycopy", "abs", "min", "max", "bitCount", "copyOf", "fill").contains(calls.group(2)), calls.group());
        }
        rule(text.chars().allMatch(ch -> ch < 128), "signs 1 to 127 alone");
        int start = 0;
        String[] lines = text.split("\n");
        for (int i = 0; i < lines.length; i++) {
            if (lines[i].matches(" {4,8}(public|private|static|final|int|boolean|void|long|Text).*\\) \\{")) {
                start = i;
            }
            if (lines[i].matches(" {4,8}\\}")) {
                rule(i - start < 60 || start == 0 || lines[i].equals("    }"), "the method at line " + (start + 1) + " is short");
            }
        }
    }

    /** Methods of the same name are taken as one, which can only make the chains of calls longer. */
    private static void depth() throws Exception {
        String code = bare(Files.readString(Path.of("src/main/java/BoroughBeam.java")));
        Map<String, Set<String>> calls = new TreeMap<>();
        Matcher heads = Pattern.compile("\n( {4}| {8})(?:(?:public|private|static|final) )*[\\w\\[\\]]+ (\\w+)\\([^()]*\\) \\{\n").matcher(code);
        while (heads.find()) {
            String body = code.substring(heads.end(), code.indexOf("\n" + heads.group(1) + "}\n", heads.end() - 1));
            Matcher called = Pattern.compile("(?<!new )\\b(\\w+)\\(").matcher(body);
            Set<String> names = calls.computeIfAbsent(heads.group(2), name -> new TreeSet<>());
            while (called.find()) {
                names.add(called.group(1));
            }
        }
        rule(calls.size() > 100, "methods are found in the source: " + calls.size());
        Map<String, Set<String>> reached = new TreeMap<>();
        for (String name : calls.keySet()) {
            calls.get(name).retainAll(calls.keySet());
        }
        for (String name : calls.keySet()) {
            reached.put(name, reach(calls, name));
        }
        for (Method m : BoroughBeam.class.getDeclaredMethods()) {
            if (Modifier.isPublic(m.getModifiers())) {
                int deep = deepest(calls, reached, m.getName());
                rule(deep <= 8, m.getName() + " goes " + deep + " calls deep, recursion aside");
            }
        }
    }

    private static Set<String> reach(Map<String, Set<String>> calls, String from) {
        Set<String> seen = new TreeSet<>();
        List<String> next = new ArrayList<>(calls.get(from));
        while (!next.isEmpty()) {
            String name = next.remove(next.size() - 1);
            if (seen.add(name)) {
                next.addAll(calls.get(name));
            }
        }
        return seen;
    }

    /** Methods that call one another by recursion count as one. */
    private static int deepest(Map<String, Set<String>> calls, Map<String, Set<String>> reached, String from) {
        Set<String> group = new TreeSet<>(Set.of(from));
        for (String name : reached.get(from)) {
            if (reached.get(name).contains(from)) {
                group.add(name);
            }
        }
        int below = 0;
        for (String member : group) {
            for (String name : calls.get(member)) {
                if (!group.contains(name)) {
                    below = Math.max(below, deepest(calls, reached, name));
                }
            }
        }
        return below + 1;
    }

    /** Every method with every mixture of numbers from within and from far outside, in any state. */
    private static void neverThrows() throws Exception {
        Random random = new Random(11);
        int[] numbers = {Integer.MIN_VALUE, Integer.MAX_VALUE, -2, -1, 0, 1, 2, 3, 4, 5, 6, 7, 8, 9, 10, 20, 59, 60, 61, 300,
            301, 400, 9999, 10000, 0x68302b31, 0x74697073, 0x20313b20};
        List<Method> methods = new ArrayList<>();
        for (Method m : BoroughBeam.class.getDeclaredMethods()) {
            if (Modifier.isPublic(m.getModifiers())) {
                methods.add(m);
            }
        }
        for (int run = 0; run < 300; run++) {
            BoroughBeam b = new BoroughBeam();
            for (int i = 0; i < 512; i++) {
                Method m = methods.get(random.nextInt(methods.size()));
                Object[] args = new Object[m.getParameterCount()];
                for (int k = 0; k < args.length; k++) {
                    boolean truth = m.getParameterTypes()[k] == boolean.class;
                    args[k] = truth ? (Object) random.nextBoolean() : (Object) numbers[random.nextInt(numbers.length)];
                }
                try {
                    m.invoke(b, args);
                } catch (java.lang.reflect.InvocationTargetException e) {
                    rule(false, m.getName() + Arrays.toString(args) + " threw " + e.getCause());
                }
            }
        }
    }

    private static void allocates() {
        com.sun.management.ThreadMXBean threads = (com.sun.management.ThreadMXBean) java.lang.management.ManagementFactory.getThreadMXBean();
        long me = Thread.currentThread().getId();
        long before = threads.getThreadAllocatedBytes(me);
        BoroughBeam b = new BoroughBeam();
        long made = threads.getThreadAllocatedBytes(me) - before;
        rule(made < 40000, "a new object takes " + made + " bytes");
        before = threads.getThreadAllocatedBytes(me);
        b.where(true);
        long first = threads.getThreadAllocatedBytes(me) - before;
        rule(first < 80000, "the first search takes " + first + " bytes");
        for (int p = 0; p < 4; p++) {
            b.person(1, 4);
            b.hand(p + 1, p);
        }
        b.goal(0, 8);
        b.goal(1, 0);
        before = threads.getThreadAllocatedBytes(me);
        long sum = 0;
        for (int i = 0; i < 20; i++) {
            sum += b.errands(true, i) + b.where(false) + b.paid(true) + b.level(i) + b.hour(1) + b.foretold(60, 0) + b.undo()
                + b.image() + b.back() + b.orders() + b.share(0, true) + b.slips(1, true) + b.halves(1) + b.swap(true)
                + b.years(i, 40) + b.undo() + b.quarrel(true) + b.cat(3, 0) + b.free(0) + b.book(0, 1) + b.travelled();
        }
        long used = threads.getThreadAllocatedBytes(me) - before;
        rule(used < 20000, "calls that make nothing take " + used + " bytes (" + sum + ")");
    }
}
