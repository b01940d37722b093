import java.lang.reflect.Constructor;
import java.lang.reflect.Field;
import java.lang.reflect.Method;
import java.lang.reflect.Modifier;
import java.nio.file.Files;
import java.nio.file.Path;
import java.util.ArrayList;
import java.util.Arrays;
import java.util.HashSet;
import java.util.List;
import java.util.Set;
import java.util.TreeSet;

/** The document's face, and those rules of LANGUAGE.md that can be seen in the class or in its text. */
public final class FaceTest {
    private static final String[] METHODS = {
        "int make int int int", "int edge int int int int", "int accept int int boolean", "int start int int",
        "int about int int", "int to int int int", "int order int", "int smaller int int",
        "int join int int int int", "int feed int int int int int", "int end int", "int read int int",
        "int takes int", "int same int int", "int apart int int int", "long words int int", "int word int long",
        "long number int", "int octet int", "int bytes", "int mappings int", "int maps int int", "int mapping int"};
    private static final String[] BANNED = {"throw", "throws", "try", "catch", "finally", "synchronized", "assert",
        "float", "double", "Object", "hashCode", "toString", "System.out", "Exact"};

    public static void main(String[] args) throws Exception {
        constants();
        methods();
        constructors();
        names();
        classes();
        text();
        Check.finish();
    }

    private static void constants() {
        Check.due("NONE", StateShop.NONE, -1);
        Check.due("OUTSIDE", StateShop.OUTSIDE, -102);
        Check.due("STATE", StateShop.STATE, -103);
        Check.due("ROOM", StateShop.ROOM, -104);
        Set<String> open = new TreeSet<>();
        for (Field field : StateShop.class.getDeclaredFields()) {
            if (!Modifier.isPrivate(field.getModifiers())) {
                open.add(Modifier.toString(field.getModifiers()) + " " + field.getType() + " " + field.getName());
            }
        }
        Check.due("the open fields", open.toString(), "[public static final int NONE, public static final int OUTSIDE, "
            + "public static final int ROOM, public static final int STATE]");
    }

    private static void methods() {
        Set<String> open = new TreeSet<>();
        for (Method method : StateShop.class.getDeclaredMethods()) {
            if (!Modifier.isPrivate(method.getModifiers()) && !method.isSynthetic()) {
                StringBuilder text = new StringBuilder(method.getReturnType() + " " + method.getName());
                for (Class<?> type : method.getParameterTypes()) {
                    text.append(' ').append(type);
                }
                open.add(text.toString());
                Check.due("modifiers of " + text, Modifier.toString(method.getModifiers()), "public");
            }
        }
        Check.due("the open methods", open.toString(), new TreeSet<>(Arrays.asList(METHODS)).toString());
    }

    private static void constructors() {
        Constructor<?>[] all = StateShop.class.getDeclaredConstructors();
        Check.due("constructors", all.length, 1);
        Check.due("the constructor", all[0].toString(), "public StateShop()");
        Check.due("the class", Modifier.toString(StateShop.class.getModifiers()), "public final");
    }

    private static void names() {
        Set<String> open = new HashSet<>();
        for (String method : METHODS) {
            open.add(method.split(" ")[1]);
        }
        List<String> wrong = new ArrayList<>();
        for (Class<?> inside : StateShop.class.getDeclaredClasses()) {
            for (Method method : inside.getDeclaredMethods()) {
                if (open.contains(method.getName())) {
                    wrong.add(inside.getSimpleName() + "." + method.getName());
                }
            }
        }
        for (Method method : StateShop.class.getDeclaredMethods()) {
            if (Modifier.isPrivate(method.getModifiers()) && open.contains(method.getName())) {
                wrong.add(method.getName());
            }
        }
        Check.due("names of open methods", wrong.toString(), "[]");
    }

    private static void classes() {
        Class<?>[] inside = StateShop.class.getDeclaredClasses();
        Check.due("at most twelve classes", Math.min(inside.length, 13), inside.length);
        for (Class<?> one : inside) {
            Check.due(one + " is static", Modifier.isStatic(one.getModifiers()) ? 1 : 0, 1);
            Check.due(one + " has few fields", one.getDeclaredFields().length <= 20 ? 1 : 0, 1);
            for (Field field : one.getDeclaredFields()) {
                boolean isStatic = Modifier.isStatic(field.getModifiers());
                Check.due(field + " is final if static", isStatic && !Modifier.isFinal(field.getModifiers()) ? 1 : 0, 0);
            }
            for (Method method : one.getDeclaredMethods()) {
                Check.due(method + " has few parameters", Math.max(method.getParameterCount(), 7), 7);
            }
        }
    }

    private static void text() throws Exception {
        List<String> lines = Files.readAllLines(Path.of("src/main/java/StateShop.java"));
        int from = -1;
        for (int i = 0; i < lines.size(); i++) {
            String line = lines.get(i);
            String code = line.replaceAll("'.'", "").replaceAll("//.*|^\\s*/?\\*.*", "");
            for (String word : BANNED) {
                Check.due("line " + (i + 1) + " has no " + word, code.matches(".*\\b" + word + "\\b.*") ? 1 : 0, 0);
            }
            Check.due("line " + (i + 1) + " has no lambda", code.contains("->") || code.contains("::") ? 1 : 0, 0);
            if (code.startsWith("import")) {
                Check.due("line " + (i + 1), code, "import java.util.Arrays;");
            }
            if (code.matches("(    |        )\\w.*\\) \\{")) {
                from = i;
            }
            if (code.matches("(    |        )\\}") && from >= 0) {
                Check.due("the method at line " + (from + 1) + " is short", Math.max(i - from + 1, 60), 60);
                from = -1;
            }
        }
    }
}
