import java.io.IOException;
import java.lang.reflect.Constructor;
import java.lang.reflect.Field;
import java.lang.reflect.Method;
import java.lang.reflect.Modifier;
import java.nio.file.Files;
import java.nio.file.Path;
import java.util.Arrays;
import java.util.Set;
import java.util.TreeSet;
import java.util.regex.Matcher;
import java.util.regex.Pattern;
import java.util.stream.Collectors;

/** The public face of the document, and those rules of LANGUAGE.md that a look at the class and its text can hold. */
public final class FaceTest {
    private static final String FACE = "row(int,int,int) set(int,int,int) copy(int,int,int,int,int) drop(int) "
        + "feed(long,int) bay() fault() hours(int) lend(int,int,int) pay(int,int,int) storm(int) settle() undo() "
        + "water(int,int) owes(int,int) ahead(int,int,int) sail(int,int,int,int) net(int,int) least(int,int,int,int) "
        + "run() frauds(int,int) image(int) restore(int) kind(int) as(int,int) ask(int,int) trace(int) count(int) status()";

    public static void main(String[] args) throws IOException {
        constants();
        methods();
        membersAreHidden();
        classesInside();
        sizes(TideDebts.class);
        for (Class<?> c : TideDebts.class.getDeclaredClasses()) {
            sizes(c);
        }
        text();
        methodsAreShort();
        Due.end();
    }

    private static void constants() {
        Due.is("NONE", -1000000, TideDebts.NONE);
        Due.is("BAD", -1000001, TideDebts.BAD);
        Due.is("STATE", -1000002, TideDebts.STATE);
        Due.is("FULL", -1000003, TideDebts.FULL);
    }

    private static String signature(Method m) {
        return m.getName() + Arrays.stream(m.getParameterTypes()).map(Class::getName)
            .collect(Collectors.joining(",", "(", ")"));
    }

    private static void methods() {
        Set<String> shown = new TreeSet<>();
        for (Method m : TideDebts.class.getDeclaredMethods()) {
            if (Modifier.isPublic(m.getModifiers())) {
                shown.add(signature(m));
                Due.is(m.getName() + " answers an int", 1, m.getReturnType() == int.class ? 1 : 0);
                Due.is(m.getName() + " is not static", 0, Modifier.isStatic(m.getModifiers()) ? 1 : 0);
            }
        }
        Due.same("the face", new TreeSet<>(Arrays.asList(FACE.split(" "))).toString(), shown.toString());
    }

    private static void membersAreHidden() {
        Due.is("public and final", Modifier.PUBLIC | Modifier.FINAL, TideDebts.class.getModifiers());
        Set<String> names = new TreeSet<>();
        for (String s : FACE.split(" ")) {
            names.add(s.substring(0, s.indexOf('(')));
        }
        for (Method m : TideDebts.class.getDeclaredMethods()) {
            boolean isPrivate = Modifier.isPrivate(m.getModifiers());
            Due.is(m.getName() + " is public or private", 1, isPrivate || Modifier.isPublic(m.getModifiers()) ? 1 : 0);
            Due.is(m.getName() + " is private by a name of its own", 0, isPrivate && names.contains(m.getName()) ? 1 : 0);
        }
        for (Class<?> c : TideDebts.class.getDeclaredClasses()) {
            for (Method m : c.getDeclaredMethods()) {
                Due.is(c.getName() + "." + m.getName() + " has a name of its own", 0, names.contains(m.getName()) ? 1 : 0);
            }
        }
        for (Field f : TideDebts.class.getDeclaredFields()) {
            boolean constant = Set.of("NONE", "BAD", "STATE", "FULL").contains(f.getName());
            Due.is(f.getName() + " is hidden", 1, constant || Modifier.isPrivate(f.getModifiers()) ? 1 : 0);
        }
        Constructor<?>[] made = TideDebts.class.getDeclaredConstructors();
        Due.is("one constructor", 1, made.length);
        Due.is("without arguments", 0, made[0].getParameterCount());
    }

    private static void classesInside() {
        Class<?>[] inside = TideDebts.class.getDeclaredClasses();
        Due.is("at most twelve classes", 1, inside.length <= 11 ? 1 : 0);
        for (Class<?> c : inside) {
            Due.is(c.getName() + " is static", 1, Modifier.isStatic(c.getModifiers()) ? 1 : 0);
            Due.is(c.getName() + " is not shown", 0, c.getModifiers() & (Modifier.PUBLIC | Modifier.PROTECTED));
            for (Field f : c.getDeclaredFields()) {
                Due.is(c.getName() + "." + f.getName() + ", if static, is final", 1,
                    !Modifier.isStatic(f.getModifiers()) || Modifier.isFinal(f.getModifiers()) ? 1 : 0);
            }
        }
    }

    private static void sizes(Class<?> c) {
        for (Method m : c.getDeclaredMethods()) {
            Due.is(c.getName() + "." + m.getName() + " takes seven at most", 1, m.getParameterCount() <= 7 ? 1 : 0);
        }
        long fields = Arrays.stream(c.getDeclaredFields()).filter(f -> !Modifier.isStatic(f.getModifiers())).count();
        Due.is(c.getName() + " has twenty fields at most", 1, fields <= 20 ? 1 : 0);
    }

    /** A method begins and ends with lines of the same indent: four blanks, or eight within a class inside. */
    private static void methodsAreShort() throws IOException {
        String text = Files.readString(Path.of("src/main/java/TideDebts.java"));
        Matcher method = Pattern.compile("(?ms)^( {4}| {8})(?! |/)[^\n;=]*\\([^\n;]*\\) \\{\n.*?^\\1\\}").matcher(text);
        int methods = 0;
        while (method.find()) {
            methods++;
            int lines = method.group().split("\n").length;
            String first = method.group().trim().split("\n")[0];
            Due.is(first + " has sixty lines at most", 1, lines <= 60 ? 1 : 0);
        }
        Due.is("methods were found", 1, methods > 90 ? 1 : 0);
    }

    private static void text() throws IOException {
        String text = Files.readString(Path.of("src/main/java/TideDebts.java"))
            .replaceAll("(?s)/\\*.*?\\*/", " ").replaceAll("//[^\n]*", " ").replaceAll("\"[^\"\n]*\"", "S");
        String[] ruledOut = {
            "\\b(throw|throws|try|catch|synchronized|assert|volatile|native|transient|yield|var)\\b", "->", "::",
            "\\bstatic\\s*\\{", "\\b(hashCode|toString|equals)\\b", "@", "Exact\\b", "\\bpackage\\b", "\\bprotected\\b",
            "\\b(Object|Random|Thread|Class|Throwable|Exception|Error|Runtime)\\b", "\\bSystem\\.(?!arraycopy\\b)",
            "\\bArrays\\.(?!(fill|copyOf|copyOfRange)\\b)"};
        for (String pattern : ruledOut) {
            Matcher m = Pattern.compile(pattern).matcher(text);
            Due.same("what LANGUAGE.md rules out", "none", m.find() ? m.group() : "none");
        }
        Matcher imports = Pattern.compile("import ([\\w.*]+);").matcher(text);
        while (imports.find()) {
            Due.is("import of " + imports.group(1), 1,
                Set.of("java.util.Arrays", "java.util.ArrayList", "java.util.List").contains(imports.group(1)) ? 1 : 0);
        }
        // A call must make nothing: the room is one for all calls of a run.
        Matcher made = Pattern.compile("\n( *)([^\n]*\\bnew\\b[^\n]*)").matcher(text);
        while (made.find()) {
            String line = made.group(2);
            boolean field = line.contains("final ");
            boolean inConstructor = line.matches("(images\\[k\\] = new Bay|ledgers\\[i\\] = new Ledger)\\(\\);");
            Due.same("new, in a field or a constructor alone", "so", field || inConstructor ? "so" : line);
        }
    }
}
