import java.io.IOException;
import java.lang.reflect.Constructor;
import java.lang.reflect.Field;
import java.lang.reflect.Method;
import java.lang.reflect.Modifier;
import java.nio.file.Files;
import java.nio.file.Path;
import java.util.Arrays;
import java.util.List;
import java.util.Set;
import java.util.TreeSet;

/** The public face is the document's; and the rules of LANGUAGE.md that can be read off the file. */
public final class FaceTest {
    private static final String A = " throws IllegalArgumentException";
    private static final String S = " throws IllegalArgumentException IllegalStateException";
    private static final Set<String> FACE = Set.of(
            "int tell(int,int)" + A, "int setMove(int,int,int)" + A, "int tellKind(int,int)" + A,
            "int pay(int,int)" + S, "int bring(int,int,int)" + S, "int contribute(int,int)" + S,
            "int place(int,int,boolean,int,int)" + S,
            "int cancel(int) throws IndexOutOfBoundsException IllegalStateException",
            "int halt(int,boolean)" + A, "int left(int) throws IndexOutOfBoundsException",
            "int best(int,boolean)" + A + " NoSuchElementException", "int trades()", "int hour()", "int evening()",
            "int called(int)" + A, "boolean hasFailed(int)" + A, "int position(int,int)" + A, "int cash(int)" + A,
            "int equity(int)" + A, "int equityByTrades(int)" + A, "int margin(int)" + A, "int haircut(int)" + A,
            "int collateral(int)" + A, "int free(int)" + A, "int share(int)" + A, "int unpaid()");
    private static final List<String> RULED_OUT = List.of("->", "::", "catch", "finally", "synchronized", "assert ",
            "while (true)", "for (;;)", "package ", "System.", "Random", "Thread", "import java.util.*", "protected ", "var ",
            "Exact", "@");

    public static void main(String[] args) throws IOException {
        methodsAreTheFace();
        membersArePrivate();
        sourceKeepsTheRules();
        Check.end();
    }

    private static void methodsAreTheFace() {
        Set<String> found = new TreeSet<>();
        Set<String> hidden = new TreeSet<>();
        for (Method method : MarginCourt.class.getDeclaredMethods()) {
            if (Modifier.isPublic(method.getModifiers())) {
                found.add(signature(method));
            } else {
                hidden.add(method.getName());
                Check.due(method.getName() + " is private", Modifier.isPrivate(method.getModifiers()), true);
            }
        }
        TreeSet<String> missing = new TreeSet<>(FACE);
        missing.removeAll(found);
        TreeSet<String> more = new TreeSet<>(found);
        more.removeAll(FACE);
        Check.due("missing: " + missing, missing.isEmpty(), true);
        Check.due("more than the document has: " + more, more.isEmpty(), true);
        for (String told : FACE) {
            String name = told.substring(told.indexOf(' ') + 1, told.indexOf('('));
            Check.due("a private method is named " + name, hidden.contains(name), false);
        }
    }

    private static String signature(Method method) {
        StringBuilder text = new StringBuilder(method.getReturnType().getSimpleName()).append(' ');
        text.append(method.getName()).append('(');
        text.append(String.join(",", Arrays.stream(method.getParameterTypes()).map(Class::getSimpleName).toList()));
        text.append(')');
        String thrown = String.join(" ",
                Arrays.stream(method.getExceptionTypes()).map(Class::getSimpleName).toList());
        return thrown.isEmpty() ? text.toString() : text + " throws " + thrown;
    }

    private static void membersArePrivate() {
        Check.due("the class is public and final", MarginCourt.class.getModifiers(), Modifier.PUBLIC | Modifier.FINAL);
        Constructor<?>[] constructors = MarginCourt.class.getDeclaredConstructors();
        Check.due("constructors", constructors.length, 1);
        Check.due("the constructor is public", constructors[0].getModifiers(), Modifier.PUBLIC);
        Check.due("it takes nothing", constructors[0].getParameterCount(), 0);
        for (Field field : MarginCourt.class.getDeclaredFields()) {
            int modifiers = field.getModifiers();
            Check.due(field.getName() + " is private", Modifier.isPrivate(modifiers), true);
            Check.due(field.getName() + " is final if static",
                    !Modifier.isStatic(modifiers) || Modifier.isFinal(modifiers), true);
        }
        for (Class<?> inside : MarginCourt.class.getDeclaredClasses()) {
            Check.due(inside.getName() + " is static", Modifier.isStatic(inside.getModifiers()), true);
            Check.due(inside.getName() + " is not public", Modifier.isPublic(inside.getModifiers()), false);
        }
    }

    private static void sourceKeepsTheRules() throws IOException {
        Path file = Path.of("src/main/java/MarginCourt.java");
        for (String line : Files.readAllLines(file)) {
            String code = line.strip();
            if (code.startsWith("*") || code.startsWith("/") || code.startsWith("// ")) {
                continue;
            }
            for (String word : RULED_OUT) {
                Check.due("the line '" + code + "' holds '" + word + "', which", code.contains(word), false);
            }
            if (code.startsWith("import ")) {
                Check.due(code, Set.of("import java.util.ArrayList;", "import java.util.NoSuchElementException;")
                        .contains(code), true);
            }
        }
    }
}
