import java.io.IOException;
import java.lang.reflect.Constructor;
import java.lang.reflect.Field;
import java.lang.reflect.Method;
import java.lang.reflect.Modifier;
import java.nio.file.Files;
import java.nio.file.Path;
import java.util.ArrayList;
import java.util.Arrays;
import java.util.List;
import java.util.Set;
import java.util.TreeSet;
import java.util.regex.Matcher;
import java.util.regex.Pattern;

/** The public face, member by member, and the rules of LANGUAGE.md that can be seen from the text. */
public final class LanguageTests {
    private static final String[] FACE = {
        "int length(int)", "int set(int,int)", "int linear(int,int)", "int take(int,int,int,int,int)",
        "int feedback(int)", "int step(int,long)", "int back(int,int)", "int about(int,int)",
        "int ring(int,int)", "int told(int)", "int turn(int)", "int join()", "int ways()", "int prefer(int)",
        "int sheet(int,int,int)", "int lose(int)", "int put(int,int,long)", "long at(int,int,int)",
        "int out(int,int,int,int)", "int thin(int,int,int)", "int mix(int,int,int)", "int order(int,int)",
        "int greatest(int,int)", "int period(int)", "int learn(int)", "int along(int,int)", "int tell(int)",
        "int weigh(int)", "int as(int,int)", "int trace()", "int fault()"
    };
    private static final String[] CONSTANTS = {
        "int UNKNOWN", "int OUTSIDE", "int STATE", "int FULL", "int NONE", "long LOST"
    };
    private static final String[] BANNED = {
        "\\bthrow\\b", "\\btry\\b", "\\bcatch\\b", "\\bsynchronized\\b", "\\bassert\\b", "->", "::",
        "\\bObject\\b", "\\bException\\b", "Exact\\(", "\\bdouble\\b", "\\bfloat\\b", "\\bpackage\\b",
        "\\bSystem\\.(?!arraycopy)", "\\bvar\\b", "\\binstanceof\\b", "@SuppressWarnings"
    };
    private static int wrong = 0;

    private static void hold(boolean holds, String what) {
        if (!holds) {
            wrong++;
            System.out.println("does not hold: " + what);
        }
    }

    private static String typesOf(Class<?>[] types) {
        List<String> names = new ArrayList<>();
        for (Class<?> type : types) {
            names.add(type.getName());
        }
        return "(" + String.join(",", names) + ")";
    }

    private static void face() {
        hold(Modifier.isPublic(BitRings.class.getModifiers()), "the class is public");
        hold(Modifier.isFinal(BitRings.class.getModifiers()), "the class is final");
        Set<String> methods = new TreeSet<>();
        Set<String> names = new TreeSet<>();
        for (Method method : BitRings.class.getDeclaredMethods()) {
            if (Modifier.isPrivate(method.getModifiers())) {
                continue;
            }
            hold(Modifier.isPublic(method.getModifiers()), method + " is public or private");
            hold(!Modifier.isStatic(method.getModifiers()), method + " is not static");
            methods.add(method.getReturnType() + " " + method.getName() + typesOf(method.getParameterTypes()));
            names.add(method.getName());
        }
        hold(methods.equals(new TreeSet<>(Arrays.asList(FACE))), "the methods of the face: " + methods);
        Set<String> constants = new TreeSet<>();
        for (Field field : BitRings.class.getDeclaredFields()) {
            if (!Modifier.isPrivate(field.getModifiers())) {
                hold(Modifier.toString(field.getModifiers()).equals("public static final"), field + " is a constant");
                constants.add(field.getType() + " " + field.getName());
            }
        }
        hold(constants.equals(new TreeSet<>(Arrays.asList(CONSTANTS))), "the constants of the face: " + constants);
        Constructor<?>[] constructors = BitRings.class.getDeclaredConstructors();
        hold(constructors.length == 1 && constructors[0].getParameterCount() == 0
            && Modifier.isPublic(constructors[0].getModifiers()), "the constructor of the face");
        inside(names);
    }

    private static void inside(Set<String> publicNames) {
        List<Class<?>> all = new ArrayList<>(Arrays.asList(BitRings.class.getDeclaredClasses()));
        hold(all.size() < 12, "at most some twelve classes");
        for (Class<?> type : all) {
            hold(Modifier.isStatic(type.getModifiers()), type + " is static");
            hold(!Modifier.isPublic(type.getModifiers()), type + " is not public");
            for (Method method : type.getDeclaredMethods()) {
                hold(!publicNames.contains(method.getName()), method + " bears no name of the face");
            }
        }
        all.add(BitRings.class);
        for (Class<?> type : all) {
            int fields = 0;
            for (Field field : type.getDeclaredFields()) {
                int modifiers = field.getModifiers();
                hold(!Modifier.isStatic(modifiers) || Modifier.isFinal(modifiers), field + " is final if static");
                fields += Modifier.isStatic(modifiers) ? 0 : 1;
            }
            hold(fields <= 20, type + " has at most some twenty fields");
            for (Method method : type.getDeclaredMethods()) {
                boolean clash = Modifier.isPrivate(method.getModifiers()) && publicNames.contains(method.getName());
                hold(!clash, method + " bears no name of the face");
                hold(method.getParameterCount() <= 7, method + " has at most seven parameters");
            }
        }
    }

    private static void text() throws IOException {
        String source = Files.readString(Path.of("src/main/java/BitRings.java"));
        String code = source.replaceAll("(?s)/\\*.*?\\*/", "").replaceAll("//[^\n]*", "");
        for (String banned : BANNED) {
            Matcher matcher = Pattern.compile(banned).matcher(code);
            hold(!matcher.find(), "the text is without " + banned);
        }
        Matcher imports = Pattern.compile("import ([^;]*);").matcher(code);
        while (imports.find()) {
            hold(imports.group(1).equals("java.util.Arrays"), "the import of " + imports.group(1));
        }
        methodsAreShort(code);
    }

    private static void methodsAreShort(String code) {
        int opened = -1;
        String[] lines = code.split("\n");
        String indent = "";
        for (int i = 0; i < lines.length; i++) {
            Matcher head = Pattern.compile("^(\\s+)[a-zA-Z].*\\) \\{$").matcher(lines[i]);
            if (opened < 0 && head.matches()) {
                opened = i;
                indent = head.group(1);
            } else if (opened >= 0 && lines[i].equals(indent + "}")) {
                hold(i - opened <= 60, "the method of " + lines[opened].trim() + " is short");
                opened = -1;
            }
        }
    }

    public static void main(String[] args) throws IOException {
        face();
        text();
        System.out.println(wrong == 0 ? "face and rules hold" : wrong + " do not hold");
        if (wrong != 0) {
            System.exit(1);
        }
    }
}
