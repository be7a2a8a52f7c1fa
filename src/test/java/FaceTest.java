import java.io.IOException;
import java.lang.reflect.Constructor;
import java.lang.reflect.Field;
import java.lang.reflect.Member;
import java.lang.reflect.Method;
import java.lang.reflect.Modifier;
import java.nio.file.Files;
import java.nio.file.Path;
import java.util.Arrays;
import java.util.Set;
import java.util.TreeSet;
import java.util.regex.Matcher;
import java.util.regex.Pattern;

/** The face of the document, and the rules of LANGUAGE.md that can be seen from outside. Runs in the project's folder. */
public final class FaceTest {
    private static final Due DUE = new Due();
    private static final String[] FACE = {
        "int root(int, int)", "int leaf(int, int, int)", "int box(int, int, int)", "int put(int, int, int)",
        "int clear(int, int)", "int row(int, int, int, int)", "int set(int, int, int, long)",
        "int copy(int, int, int, int, int)", "long element(int, int, int)", "int holds(int, int)",
        "int thing(int, int)", "int gate(int, int)", "int send(int, int, int)", "int deliver(int)",
        "int letter(int, int)", "int clean(int)", "int freed(int)", "int doubt(int)", "int walk(int, int)",
        "boolean meant(int)", "int why(int, int)", "int dead(int)", "int audit(int, int)", "int status(int)",
    };

    public static void main(String[] args) throws IOException {
        face();
        classesInside();
        words();
        DUE.end();
    }

    private static String told(Method m) {
        StringBuilder told = new StringBuilder();
        told.append(m.getReturnType()).append(' ').append(m.getName()).append('(');
        String comma = "";
        for (Class<?> type : m.getParameterTypes()) {
            told.append(comma).append(type);
            comma = ", ";
        }
        return told.append(')').toString();
    }

    private static void face() {
        Set<String> seen = new TreeSet<>();
        for (Method m : FarHold.class.getDeclaredMethods()) {
            if (!Modifier.isPrivate(m.getModifiers())) seen.add(told(m));
        }
        DUE.due("the face is " + seen, seen.equals(new TreeSet<>(Arrays.asList(FACE))), true);
        DUE.due("the class is public and final", FarHold.class.getModifiers(), Modifier.PUBLIC | Modifier.FINAL);
        Constructor<?>[] constructors = FarHold.class.getDeclaredConstructors();
        DUE.due("constructors", constructors.length, 1);
        DUE.due("its parameters", constructors[0].getParameterCount(), 0);
        for (Field f : FarHold.class.getDeclaredFields()) {
            boolean hidden = Modifier.isPrivate(f.getModifiers());
            DUE.due("field " + f.getName() + " is private", hidden, !f.getName().equals("NONE"));
        }
    }

    private static void classesInside() {
        Set<String> names = new TreeSet<>();
        for (String line : FACE) names.add(line.replaceAll("^\\w+ |\\(.*", ""));
        Class<?>[] inside = FarHold.class.getDeclaredClasses();
        DUE.due("at most twelve classes", inside.length + 1 <= 12, true);
        checkMembers(FarHold.class, names);
        for (Class<?> c : inside) {
            DUE.due(c + " is static", Modifier.isStatic(c.getModifiers()), true);
            DUE.due(c + " is not public", Modifier.isPublic(c.getModifiers()), false);
            checkMembers(c, names);
        }
    }

    private static void checkMembers(Class<?> c, Set<String> publicNames) {
        long fields = Arrays.stream(c.getDeclaredFields()).filter(f -> !isStatic(f)).count();
        DUE.due(c + " has at most twenty fields", fields <= 20, true);
        for (Field f : c.getDeclaredFields()) {
            if (isStatic(f)) DUE.due(c + "." + f.getName() + " is final", Modifier.isFinal(f.getModifiers()), true);
        }
        for (Method m : c.getDeclaredMethods()) {
            DUE.due(m + " takes at most seven", m.getParameterCount() <= 7, true);
            if (Modifier.isPublic(m.getModifiers())) continue;
            DUE.due(m + " does not bear a public name", publicNames.contains(m.getName()), false);
        }
    }

    private static boolean isStatic(Member m) {
        return Modifier.isStatic(m.getModifiers());
    }

    private static void words() throws IOException {
        String text = Files.readString(Path.of("src/main/java/FarHold.java"));
        String code = text.replaceAll("(?s)/\\*.*?\\*/", "").replaceAll("//[^\n]*", "");
        String[] never = {"throw", "throws", "try", "catch", "synchronized", "assert", "package", "import", "record",
            "Object", "System\\.(?!arraycopy)", "hashCode", "equals", "toString", "Exact"};
        for (String word : never) {
            Matcher m = Pattern.compile("\\b" + word + "(?=\\W|$|[a-z])").matcher(code);
            DUE.due("the word " + word, m.find(), false);
        }
        DUE.due("lambdas or method references", code.contains("->") || code.contains("::"), false);
    }
}
