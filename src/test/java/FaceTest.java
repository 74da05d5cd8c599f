import java.io.IOException;
import java.lang.reflect.Constructor;
import java.lang.reflect.Field;
import java.lang.reflect.Method;
import java.lang.reflect.Modifier;
import java.nio.charset.StandardCharsets;
import java.nio.file.Files;
import java.nio.file.Path;
import java.util.ArrayList;
import java.util.Arrays;
import java.util.List;
import java.util.TreeSet;
import java.util.regex.Matcher;
import java.util.regex.Pattern;

/** The document's face, and what of LANGUAGE.md can be seen by a look from outside. */
public final class FaceTest {
    private static final String SOURCE = "src/main/java/ToyRegatta.java";
    private static final Check CHECK = new Check();
    private static final String[] FACE = {
        "public int ToyRegatta.pond(int) throws IllegalArgumentException,IllegalStateException",
        "public int ToyRegatta.setWind(int,int) throws IndexOutOfBoundsException,IllegalArgumentException",
        "public int ToyRegatta.build(int,int) throws "
            + "IndexOutOfBoundsException,IllegalArgumentException,IllegalStateException",
        "public int ToyRegatta.ballast(int,int) throws "
            + "IndexOutOfBoundsException,IllegalArgumentException,IllegalStateException",
        "public int ToyRegatta.judge(int) throws IllegalArgumentException,IllegalStateException",
        "public int ToyRegatta.start() throws IllegalStateException",
        "public int ToyRegatta.pass(int) throws IllegalArgumentException",
        "public int ToyRegatta.told(int,int) throws IndexOutOfBoundsException",
        "public int ToyRegatta.about(int,int) throws IndexOutOfBoundsException",
        "public int ToyRegatta.count(int) throws IndexOutOfBoundsException",
        "public int ToyRegatta.ahead()",
        "public int ToyRegatta.champion()",
        "public boolean ToyRegatta.falls(int,int) throws IndexOutOfBoundsException,IllegalArgumentException",
        "public int ToyRegatta.when(int) throws IndexOutOfBoundsException",
        "public int ToyRegatta.winner()",
        "public int ToyRegatta.advise(int) throws IndexOutOfBoundsException",
        "public double ToyRegatta.mean()",
        "public long ToyRegatta.digest()",
    };
    private static final String[] RULED_OUT = {
        "->", "::", "catch", "finally", "synchronized", "assert", "Exact", "package ", "static {", "volatile",
        "native", "Object", "System.", "Thread", "Random", "equals", "hashCode", "toString",
    };

    private static final Pattern DIVISION = Pattern.compile(" [/%] (?:\\(double\\) )?(\\w+|\\S)");

    public static void main(String[] args) throws IOException {
        face();
        for (Class<?> type : classes()) {
            inside(type);
        }
        CHECK.due("classes are at most 12", classes().size() <= 12, true);
        source();
        CHECK.end("FaceTest");
    }

    private static void face() {
        Class<?> type = ToyRegatta.class;
        CHECK.due("public final", type.getModifiers(), Modifier.PUBLIC | Modifier.FINAL);
        TreeSet<String> seen = new TreeSet<>();
        TreeSet<String> publicNames = new TreeSet<>();
        TreeSet<String> privateNames = new TreeSet<>();
        for (Method method : type.getDeclaredMethods()) {
            if (Modifier.isPrivate(method.getModifiers())) {
                privateNames.add(method.getName());
            } else {
                publicNames.add(method.getName());
                seen.add(method.toString().replace("java.lang.", ""));
            }
        }
        same("face", seen, new TreeSet<>(Arrays.asList(FACE)));
        privateNames.retainAll(publicNames);
        same("private methods with names of the face", privateNames, new TreeSet<>());
        Constructor<?>[] constructors = type.getDeclaredConstructors();
        CHECK.due("constructors", constructors.length, 1);
        CHECK.due("a public one", constructors[0].getModifiers(), Modifier.PUBLIC);
        CHECK.due("without parameters", constructors[0].getParameterCount(), 0);
        for (Field field : type.getDeclaredFields()) {
            CHECK.due("private " + field, Modifier.isPrivate(field.getModifiers()), true);
        }
    }

    private static void same(String what, TreeSet<String> got, TreeSet<String> want) {
        if (!got.equals(want)) {
            CHECK.tell(what + " is " + got + ", due is " + want);
        }
    }

    private static List<Class<?>> classes() {
        List<Class<?>> all = new ArrayList<>(Arrays.asList(ToyRegatta.class.getDeclaredClasses()));
        all.add(ToyRegatta.class);
        return all;
    }

    private static void inside(Class<?> type) {
        if (type != ToyRegatta.class) {
            int modifiers = type.getModifiers();
            CHECK.due(type + " is static", Modifier.isStatic(modifiers), true);
            CHECK.due(type + " is hidden", Modifier.isPublic(modifiers) || Modifier.isProtected(modifiers), false);
        }
        int own = 0;
        for (Field field : type.getDeclaredFields()) {
            if (Modifier.isStatic(field.getModifiers())) {
                CHECK.due(field + " is final", Modifier.isFinal(field.getModifiers()), true);
            } else {
                own++;
            }
        }
        CHECK.due(type + " has at most 20 fields", own <= 20, true);
        for (Method method : type.getDeclaredMethods()) {
            CHECK.due(method + " has at most 7 parameters", method.getParameterCount() <= 7, true);
        }
    }

    private static void source() throws IOException {
        List<String> lines = Files.readAllLines(Path.of(SOURCE), StandardCharsets.US_ASCII);
        for (String line : lines) {
            if (line.startsWith("import ")) {
                boolean listed = line.equals("import java.util.ArrayList;") || line.equals("import java.util.Arrays;");
                CHECK.due("'" + line + "' is listed", listed, true);
            }
            for (String word : RULED_OUT) {
                CHECK.due("'" + word + "' in '" + line + "'", line.contains(word), false);
            }
        }
        for (int i = 0; i < lines.size(); i++) {
            divisors(lines, i);
        }
    }

    /** A divisor is a number, a constant, or a name that an if ahead of it looks at. */
    private static void divisors(List<String> lines, int at) {
        Matcher found = DIVISION.matcher(lines.get(at));
        while (found.find()) {
            String divisor = found.group(1);
            boolean fixed = divisor.matches("[1-9]\\d*|[A-Z][A-Z_]*");
            boolean fine = fixed || isLookedAt(lines, at, divisor);
            CHECK.due("'" + divisor + "' is looked at before it divides", fine, true);
        }
    }

    /** Looks from this line up to the empty one that stands ahead of each method. */
    private static boolean isLookedAt(List<String> lines, int at, String name) {
        for (int i = at; i >= 0 && !lines.get(i).isEmpty(); i--) {
            if (lines.get(i).strip().startsWith("if (" + name + " ")) {
                return true;
            }
        }
        return false;
    }
}
