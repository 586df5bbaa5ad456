import com.sun.management.ThreadMXBean;
import java.io.IOException;
import java.lang.management.ManagementFactory;
import java.lang.reflect.Constructor;
import java.lang.reflect.Field;
import java.lang.reflect.InvocationTargetException;
import java.lang.reflect.Method;
import java.lang.reflect.Modifier;
import java.nio.file.Files;
import java.nio.file.Path;
import java.util.ArrayList;
import java.util.Arrays;
import java.util.List;
import java.util.Map;
import java.util.Set;
import java.util.TreeMap;
import java.util.TreeSet;
import java.util.regex.Matcher;
import java.util.regex.Pattern;

/** The public face, member by member, and the rules of LANGUAGE.md that can be seen from the text. */
public final class LanguageTests {
    private static final String[] FACE = {
        "int length(int)", "int set(int,int)", "int linear(int,int)", "int take(int,int,int,int,int)",
        "int feedback(int)", "int step(int,long)", "int back(int,int)", "int about(int,int)",
        "int ring(int,int)", "int told(int)", "int turn(int)", "int join()", "int ways()", "int prefer(int)",
        "int sheet(int,int,int)", "int lose(int)", "int put(int,int,long)", "long at(int,int,int)",
        "int out(int,int,int,int)", "int thin(int,int,int)", "int mix(int,int,int)", "int order(int,int)",
        "int greatest(int,int)", "int period(int)", "int learn(int)", "int along(int,int)", "int tell(int)",
        "int weigh(int)", "int as(int,int)", "int trace()", "int fault()"
    };
    private static final String[] CONSTANTS = {
        "int UNKNOWN", "int OUTSIDE", "int STATE", "int FULL", "int NONE", "long LOST"
    };
    private static final String[] BANNED = {
        "\\bthrow\\b", "\\btry\\b", "\\bcatch\\b", "\\bsynchronized\\b", "\\bassert\\b", "->", "::",
        "\\bObject\\b", "\\bException\\b", "Exact\\(", "\\bdouble\\b", "\\bfloat\\b", "\\bpackage\\b",
        "\\bSystem\\.(?!arraycopy)", "\\bvar\\b", "\\binstanceof\\b", "@SuppressWarnings", "\"",
        "\\b(equals|hashCode|toString|getClass)\\b", "\\bstatic \\{"
    };
    /** What the class uses of the library; LANGUAGE.md allows more. */
    private static final Set<String> LIBRARY = Set.of(
        "Arrays.fill", "Math.max", "Math.min", "Integer.bitCount", "Long.bitCount");
    private static final Set<Class<?>> TYPES = Set.of(
        void.class, int.class, long.class, boolean.class, byte.class, short.class, char.class);
    private static final int DEEPEST = 8;
    private static final long[] EXTREMES = {Long.MIN_VALUE, -1, 0, 1, 2, 5, 512, 600, Long.MAX_VALUE};
    private static final int CALLS_OF_A_SCENE = 400;
    /** Rounds of up to four calls, behind four to begin with: no more than an object is promised for. */
    private static final int ROUNDS = 127;
    /** Far below the room's 7.3 million elements, but far above what a run of this class makes. */
    private static final long MOST_BYTES = 1000000;
    private static int wrong = 0;

    private static void hold(boolean holds, String what) {
        if (!holds) {
            wrong++;
            System.out.println("does not hold: " + what);
        }
    }

    private static String typesOf(Class<?>[] types) {
        List<String> names = new ArrayList<>();
        for (Class<?> type : types) {
            names.add(type.getName());
        }
        return "(" + String.join(",", names) + ")";
    }

    private static void face() {
        hold(Modifier.isPublic(BitRings.class.getModifiers()), "the class is public");
        hold(Modifier.isFinal(BitRings.class.getModifiers()), "the class is final");
        Set<String> methods = new TreeSet<>();
        Set<String> names = new TreeSet<>();
        for (Method method : BitRings.class.getDeclaredMethods()) {
            if (Modifier.isPrivate(method.getModifiers())) {
                continue;
            }
            hold(Modifier.isPublic(method.getModifiers()), method + " is public or private");
            hold(!Modifier.isStatic(method.getModifiers()), method + " is not static");
            methods.add(method.getReturnType() + " " + method.getName() + typesOf(method.getParameterTypes()));
            names.add(method.getName());
        }
        hold(methods.equals(new TreeSet<>(Arrays.asList(FACE))), "the methods of the face: " + methods);
        Set<String> constants = new TreeSet<>();
        for (Field field : BitRings.class.getDeclaredFields()) {
            if (!Modifier.isPrivate(field.getModifiers())) {
                hold(Modifier.toString(field.getModifiers()).equals("public static final"), field + " is a constant");
                constants.add(field.getType() + " " + field.getName());
            }
        }
        hold(constants.equals(new TreeSet<>(Arrays.asList(CONSTANTS))), "the constants of the face: " + constants);
        Constructor<?>[] constructors = BitRings.class.getDeclaredConstructors();
        hold(constructors.length == 1 && constructors[0].getParameterCount() == 0
            && Modifier.isPublic(constructors[0].getModifiers()), "the constructor of the face");
        inside(names);
    }

    private static void inside(Set<String> publicNames) {
        List<Class<?>> all = new ArrayList<>(Arrays.asList(BitRings.class.getDeclaredClasses()));
        hold(all.size() < 12, "at most some twelve classes");
        for (Class<?> type : all) {
            hold(Modifier.isStatic(type.getModifiers()), type + " is static");
            hold(!Modifier.isPublic(type.getModifiers()), type + " is not public");
            for (Method method : type.getDeclaredMethods()) {
                hold(!publicNames.contains(method.getName()), method + " bears no name of the face");
            }
        }
        all.add(BitRings.class);
        Set<String> members = new TreeSet<>();
        for (Class<?> type : BitRings.class.getNestMembers()) {
            members.add(type.getName());
        }
        hold(members.size() == all.size(), "no class is local or without a name: " + members);
        for (Class<?> type : all) {
            int fields = 0;
            for (Field field : type.getDeclaredFields()) {
                int modifiers = field.getModifiers();
                hold(!Modifier.isStatic(modifiers) || Modifier.isFinal(modifiers), field + " is final if static");
                hold(!Modifier.isStatic(modifiers) || field.getType().isPrimitive(), field + " is a number if static");
                hold(isAllowed(field.getType()), field + " is of a type that is left");
                fields += Modifier.isStatic(modifiers) ? 0 : 1;
            }
            hold(fields <= 20, type + " has at most some twenty fields");
            for (Method method : type.getDeclaredMethods()) {
                boolean clash = Modifier.isPrivate(method.getModifiers()) && publicNames.contains(method.getName());
                hold(!clash, method + " bears no name of the face");
                hold(method.getParameterCount() <= 7, method + " has at most seven parameters");
                hold(isAllowed(method.getReturnType()), method + " answers a type that is left");
                for (Class<?> parameter : method.getParameterTypes()) {
                    hold(isAllowed(parameter), method + " takes types that are left");
                }
            }
        }
    }

    private static boolean isAllowed(Class<?> type) {
        Class<?> plain = type.isArray() ? type.getComponentType() : type;
        return TYPES.contains(plain) || plain.getNestHost() == BitRings.class;
    }

    private static void text() throws IOException {
        String source = Files.readString(Path.of("src/main/java/BitRings.java"));
        String code = source.replaceAll("(?s)/\\*.*?\\*/", "").replaceAll("//[^\n]*", "");
        for (String banned : BANNED) {
            Matcher matcher = Pattern.compile(banned).matcher(code);
            hold(!matcher.find(), "the text is without " + banned);
        }
        Matcher imports = Pattern.compile("import ([^;]*);").matcher(code);
        while (imports.find()) {
            hold(imports.group(1).equals("java.util.Arrays"), "the import of " + imports.group(1));
        }
        Matcher calls = Pattern.compile("\\b([A-Z]\\w*\\.[a-z]\\w*)\\(").matcher(code);
        while (calls.find()) {
            hold(LIBRARY.contains(calls.group(1)), "the call of " + calls.group(1));
        }
        methodsAreShort(code);
        callsAreFew(code);
    }

    /** By names alone, so methods of one name count as one: what holds for these holds for each. */
    private static void callsAreFew(String code) {
        Map<String, Set<String>> called = new TreeMap<>();
        String inside = "";
        for (String line : code.split("\n")) {
            Matcher head = Pattern.compile("^ {4,8}[a-z].*\\b(\\w+)\\([^)]*\\) \\{$").matcher(line);
            if (head.matches() && !line.contains(" new ")) {
                inside = head.group(1);
                called.putIfAbsent(inside, new TreeSet<>());
                continue;
            }
            Matcher call = Pattern.compile("\\b([a-z]\\w*)\\(").matcher(line);
            while (!inside.isEmpty() && call.find()) {
                called.get(inside).add(call.group(1));
            }
        }
        hold(called.keySet().size() > FACE.length, "the methods are found: " + called.keySet());
        for (String name : called.keySet()) {
            hold(depth(called, name, 1) <= DEEPEST, "calls go at most eight deep, from " + name);
        }
    }

    private static int depth(Map<String, Set<String>> called, String name, int above) {
        int deepest = above;
        for (String next : called.get(name)) {
            if (called.containsKey(next) && above <= DEEPEST) {
                deepest = Math.max(deepest, depth(called, next, above + 1));
            }
        }
        return deepest;
    }

    private static void methodsAreShort(String code) {
        int opened = -1;
        String[] lines = code.split("\n");
        String indent = "";
        for (int i = 0; i < lines.length; i++) {
            Matcher head = Pattern.compile("^(\\s+)[a-zA-Z].*\\) \\{$").matcher(lines[i]);
            if (opened < 0 && head.matches()) {
                opened = i;
                indent = head.group(1);
            } else if (opened >= 0 && lines[i].equals(indent + "}")) {
                hold(i - opened <= 60, "the method of " + lines[opened].trim() + " is short");
                opened = -1;
            }
        }
    }

    /** Every call with all of these in every place, in three states: rule 7. */
    private static void nothingIsThrown() throws IllegalAccessException {
        for (Method method : BitRings.class.getDeclaredMethods()) {
            if (Modifier.isPublic(method.getModifiers())) {
                for (int scene = 0; scene < 3; scene++) {
                    callWithAll(method, scene);
                }
            }
        }
    }

    private static BitRings sceneOf(int number) {
        if (number == 0) {
            return Checks.mixedScene();
        }
        if (number == 1) {
            return Checks.pureScene();
        }
        BitRings x = Checks.linearOf(9, 1, 0);
        for (int k = 0; k < 4; k++) {
            x.sheet(k, k % 3, 600);
            x.out(1, k, 0, 600);
        }
        return x;
    }

    private static void callWithAll(Method method, int scene) throws IllegalAccessException {
        Class<?>[] types = method.getParameterTypes();
        int choices = 1;
        for (int p = 0; p < types.length; p++) {
            choices *= EXTREMES.length;
        }
        BitRings x = sceneOf(scene);
        for (int choice = 0; choice < choices; choice++) {
            x = choice % CALLS_OF_A_SCENE == 0 ? sceneOf(scene) : x;
            Object[] arguments = new Object[types.length];
            int left = choice;
            for (int p = 0; p < types.length; p++) {
                long value = EXTREMES[left % EXTREMES.length];
                left /= EXTREMES.length;
                arguments[p] = types[p] == long.class ? (Object) value : (Object) (int) inInts(value);
            }
            try {
                method.invoke(x, arguments);
            } catch (InvocationTargetException e) {
                hold(false, method.getName() + Arrays.toString(arguments) + " threw " + e.getCause());
            }
        }
    }

    private static long inInts(long value) {
        return Math.max(Integer.MIN_VALUE, Math.min(Integer.MAX_VALUE, value));
    }

    private interface Run {
        void on(BitRings x, int c);
    }

    /** The dearest calls, as many as an object is promised for: what they make all stays in one room. */
    private static void room() {
        fitsTheRoom("join", (x, c) -> {
            x.linear(1, 0);
            x.join();
        });
        fitsTheRoom("ways", (x, c) -> {
            x.turn(c % 256);
            x.ways();
        });
        fitsTheRoom("ways of all lengths", (x, c) -> {
            x.length(2 + c % 8);
            x.linear(1, 0);
            x.ways();
        });
        fitsTheRoom("rows", (x, c) -> {
            x.sheet(c % 4, c % 3, 600);
            x.out(1, c % 4, 0, 600);
            x.thin(c % 4, 1, (c + 1) % 4);
            x.mix(c % 4, (c + 1) % 4, 0);
        });
        fitsTheRoom("orders", (x, c) -> {
            x.order(0, 600);
            x.greatest(0, 600);
            x.period(0);
            x.learn(0);
        });
        fitsTheRoom("parts", (x, c) -> {
            x.set(c, 1);
            x.tell(c);
            x.weigh(c);
            x.as(c, 3);
        });
    }

    private static void fitsTheRoom(String name, Run run) {
        ThreadMXBean bean = (ThreadMXBean) ManagementFactory.getThreadMXBean();
        // once ahead, so that what the machine makes to load and to count is not counted
        bytesOf(bean, run);
        long bytes = bytesOf(bean, run);
        hold(bytes < MOST_BYTES, name + " makes little: " + bytes + " bytes");
    }

    private static long bytesOf(ThreadMXBean bean, Run run) {
        long before = bean.getCurrentThreadAllocatedBytes();
        BitRings x = new BitRings();
        x.length(9);
        x.linear(1, 0);
        x.sheet(0, 0, 600);
        x.out(1, 0, 0, 600);
        for (int c = 0; c < ROUNDS; c++) {
            run.on(x, c);
        }
        return bean.getCurrentThreadAllocatedBytes() - before;
    }

    public static void main(String[] args) throws IOException, IllegalAccessException {
        face();
        text();
        nothingIsThrown();
        room();
        System.out.println(wrong == 0 ? "face and rules hold" : wrong + " do not hold");
        if (wrong != 0) {
            System.exit(1);
        }
    }
}
