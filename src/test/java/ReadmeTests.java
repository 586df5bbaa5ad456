import java.io.IOException;
import java.lang.reflect.Method;
import java.lang.reflect.Modifier;
import java.nio.file.Files;
import java.nio.file.Path;
import java.util.ArrayList;
import java.util.List;
import java.util.regex.Matcher;
import java.util.regex.Pattern;
import java.util.stream.Stream;

/**
 * What README.md says of answers is true: its runs of calls are made again, row by row, and its table of
 * refusals and faults is held against the class. It names every test of the project.
 */
public final class ReadmeTests {
    private static final Pattern NEW = Pattern.compile("BitRings x = new BitRings\\(\\);.*");
    private static final Pattern CALL = Pattern.compile("x\\.(\\w+)\\((.*)\\);\\s+// (-?\\d+|[A-Z]+):.*");
    private static final Pattern REFUSAL = Pattern.compile("\\| (-\\d+) \\| `([A-Z]+)` \\|.*");
    private static final Pattern FAULT = Pattern.compile("\\| (-\\d+) \\| fault (\\d), [A-Z]+ \\|.*");
    private static int asked = 0;
    private static int wrong = 0;

    public static void main(String[] args) throws Exception {
        List<String> rows = Files.readAllLines(Path.of("README.md"));
        holdRuns(javaRows(rows));
        holdTable(rows);
        holdNames(String.join("\n", rows));
        System.out.println(asked + " rows looked at, " + wrong + " wrong");
        if (wrong != 0) {
            System.exit(1);
        }
    }

    private static void due(String what, Object got, Object want) {
        asked++;
        if (!want.equals(got)) {
            wrong++;
            System.out.println("README.md: " + what + " is " + got + ", it says " + want);
        }
    }

    private static List<String> javaRows(List<String> rows) {
        List<String> found = new ArrayList<>();
        boolean inside = false;
        for (String row : rows) {
            if (row.startsWith("```")) {
                inside = row.equals("```java");
            } else if (inside) {
                found.add(row);
            }
        }
        return found;
    }

    /** A row of another form would be believed unseen, so it is wrong. */
    private static void holdRuns(List<String> rows) throws ReflectiveOperationException {
        BitRings x = null;
        int calls = 0;
        for (String row : rows) {
            Matcher call = CALL.matcher(row);
            if (NEW.matcher(row).matches()) {
                x = new BitRings();
            } else if (x != null && call.matches()) {
                due(row, answered(x, call.group(1), call.group(2)), number(call.group(3)));
                calls++;
            } else {
                due("a row that can't be read: " + row, false, true);
            }
        }
        due("that it has runs of calls", calls > 30, true);
    }

    private static long answered(BitRings x, String name, String list) throws ReflectiveOperationException {
        String[] words = list.isEmpty() ? new String[0] : list.split(", ");
        Method method = methodOf(name);
        Class<?>[] types = method.getParameterTypes();
        due("how many numbers " + name + " has", words.length, types.length);
        Object[] values = new Object[types.length];
        for (int i = 0; i < types.length; i++) {
            values[i] = types[i] == long.class ? (Object) Long.valueOf(words[i]) : (Object) Integer.valueOf(words[i]);
        }
        return ((Number) method.invoke(x, values)).longValue();
    }

    private static Method methodOf(String name) throws NoSuchMethodException {
        for (Method method : BitRings.class.getDeclaredMethods()) {
            if (Modifier.isPublic(method.getModifiers()) && method.getName().equals(name)) {
                return method;
            }
        }
        throw new NoSuchMethodException(name);
    }

    private static long number(String told) throws ReflectiveOperationException {
        boolean isName = Character.isLetter(told.charAt(0));
        return isName ? BitRings.class.getField(told).getLong(null) : Long.parseLong(told);
    }

    private static void holdTable(List<String> rows) throws ReflectiveOperationException {
        int refusals = 0;
        int faults = 0;
        for (String row : rows) {
            Matcher refusal = REFUSAL.matcher(row);
            Matcher fault = FAULT.matcher(row);
            if (refusal.matches()) {
                due(row, number(refusal.group(2)), Long.parseLong(refusal.group(1)));
                refusals++;
            } else if (fault.matches()) {
                BitRings x = faulted(Integer.parseInt(fault.group(2)));
                due(row, (long) -10 - x.fault(), Long.parseLong(fault.group(1)));
                faults++;
            }
        }
        due("how many refusals the table has", refusals, 3);
        due("how many faults the table has", faults, 4);
    }

    private static BitRings faulted(int fault) {
        BitRings x = new BitRings();
        x.sheet(0, 0, 1);
        long answer = switch (fault) {
            case 1 -> x.period(1);
            case 2 -> x.take(0, 1, 0, 1, 0);
            case 3 -> x.put(0, 1, 0);
            default -> x.out(0, 0, 0, -1);
        };
        due("the answer of fault " + fault, answer, (long) -10 - fault);
        return x;
    }

    private static void holdNames(String text) throws IOException {
        try (Stream<Path> tests = Files.list(Path.of("src/test/java"))) {
            for (Path test : tests.toList()) {
                String name = test.getFileName().toString().replace(".java", "");
                due("that it names " + name, text.contains("`" + name + "`"), true);
            }
        }
    }
}
