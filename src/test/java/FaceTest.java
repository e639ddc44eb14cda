import java.io.IOException;
import java.lang.reflect.Constructor;
import java.lang.reflect.Field;
import java.lang.reflect.Method;
import java.lang.reflect.Modifier;
import java.nio.file.Files;
import java.nio.file.Path;
import java.util.Arrays;
import java.util.Set;
import java.util.TreeSet;
import java.util.regex.Matcher;
import java.util.regex.Pattern;

/** The public face of the document, its constants, and what LANGUAGE.md leaves out. */
public final class FaceTest {
    private static final String FACE = "set(int,int) gauge(int,int,int,int,int) rain(int,int) send(int) lose(int) twice(int) run() gaugeOf(int,int) "
        + "ledger(int,int) runner(int,int) count(int) untilRound(int,int) ifSent(int) ifAllCome(int) mostUntold() put(long) wipe() fault() undo() save(int) restore(int)";
    private static final String CONSTANTS = "NO_SUCH BAD_VALUE BAD_TEXT TOO_MANY NOT_POSSIBLE NONE WHEEL GUESS";
    private static final String LEFT_OUT = "\\b(throw|throws|try|catch|synchronized|assert|import|package|protected|instanceof|volatile|native|float|double|toString|hashCode|System|Exact)\\b|->|::";

    public static void main(String[] args) throws IOException {
        constants();
        members();
        classesInside();
        shapeOf(ToldDrops.class);
        for (Class<?> inside : ToldDrops.class.getDeclaredClasses()) {
            shapeOf(inside);
        }
        source(Files.readString(Path.of("src/main/java/ToldDrops.java")));
        Due.end("FaceTest");
    }

    private static void constants() {
        Due.due("NO_SUCH", ToldDrops.NO_SUCH, -1000001);
        Due.due("BAD_VALUE", ToldDrops.BAD_VALUE, -1000002);
        Due.due("BAD_TEXT", ToldDrops.BAD_TEXT, -1000003);
        Due.due("TOO_MANY", ToldDrops.TOO_MANY, -1000004);
        Due.due("NOT_POSSIBLE", ToldDrops.NOT_POSSIBLE, -1000005);
        Due.due("NONE", ToldDrops.NONE, -1000006);
        Due.due("WHEEL", ToldDrops.WHEEL, 0);
        Due.due("GUESS", ToldDrops.GUESS, 1);
    }

    private static void members() {
        Set<String> methods = new TreeSet<>();
        for (Method method : ToldDrops.class.getDeclaredMethods()) {
            if (!Modifier.isPrivate(method.getModifiers())) {
                Due.due(method + " is public", method.getModifiers(), Modifier.PUBLIC);
                Due.due(method + " answers int", method.getReturnType() == int.class ? 1 : 0, 1);
                String signature = method.toString();
                methods.add(signature.substring(signature.lastIndexOf('.') + 1));
            }
        }
        same("methods", methods, FACE);
        Set<String> fields = new TreeSet<>();
        for (Field field : ToldDrops.class.getDeclaredFields()) {
            if (!Modifier.isPrivate(field.getModifiers())) {
                fields.add(field.getName());
            }
        }
        same("constants", fields, CONSTANTS);
        Constructor<?>[] constructors = ToldDrops.class.getDeclaredConstructors();
        Due.due("one constructor", constructors.length, 1);
        Due.due("which takes nothing", constructors[0].getParameterCount(), 0);
        Due.due("and is public", constructors[0].getModifiers(), Modifier.PUBLIC);
        Due.due("the class is public and final", ToldDrops.class.getModifiers(), Modifier.PUBLIC | Modifier.FINAL);
    }

    private static void classesInside() {
        Class<?>[] inside = ToldDrops.class.getDeclaredClasses();
        Due.due("at most 12 classes", inside.length < 12 ? 1 : 0, 1);
        for (Class<?> one : inside) {
            Due.due(one + " is static", one.getModifiers() & (Modifier.STATIC | Modifier.PUBLIC | Modifier.PROTECTED), Modifier.STATIC);
            Due.due(one + " has some twenty fields", one.getDeclaredFields().length <= 20 ? 1 : 0, 1);
        }
    }

    /** A private method bears no public name, a method takes at most seven parameters, a static field is final. */
    private static void shapeOf(Class<?> one) {
        Set<String> face = namesOfFace();
        for (Method method : one.getDeclaredMethods()) {
            boolean isPublic = Modifier.isPublic(method.getModifiers());
            Due.due(method + " has a name of its own", !isPublic && face.contains(method.getName()) ? 1 : 0, 0);
            Due.due(method + " takes at most 7", method.getParameterCount() <= 7 ? 1 : 0, 1);
        }
        for (Field field : one.getDeclaredFields()) {
            boolean changes = Modifier.isStatic(field.getModifiers()) && !Modifier.isFinal(field.getModifiers());
            Due.due(field + " is no static that changes", changes ? 1 : 0, 0);
        }
    }

    private static Set<String> namesOfFace() {
        Set<String> names = new TreeSet<>();
        for (String method : FACE.split(" ")) {
            names.add(method.substring(0, method.indexOf('(')));
        }
        return names;
    }

    /** Methods stay short: from the line that opens one to the line that closes it, which stands as far in. */
    private static void lengths(String[] lines) {
        for (int from = 0; from < lines.length; from++) {
            Matcher opens = Pattern.compile("((?:    ){1,2})[^ ].*\\) \\{").matcher(lines[from]);
            if (opens.matches()) {
                int to = from;
                while (to < lines.length && !lines[to].equals(opens.group(1) + "}")) {
                    to++;
                }
                Due.due("'" + lines[from].strip() + "' is closed within 60 lines", to < lines.length && to - from < 60 ? 1 : 0, 1);
            }
        }
    }

    private static void source(String text) {
        lengths(text.split("\n"));
        String code = text.replaceAll("(?s)/\\*.*?\\*/", " ").replaceAll("//[^\n]*", " ");
        Matcher found = Pattern.compile(LEFT_OUT).matcher(code);
        while (found.find()) {
            Due.due("'" + found.group() + "' stands in the program", 1, 0);
        }
        Due.due("signs are 1 to 127", text.chars().allMatch(sign -> sign > 0 && sign < 128) ? 1 : 0, 1);
    }

    private static void same(String what, Set<String> got, String wanted) {
        Set<String> want = new TreeSet<>(Arrays.asList(wanted.split(" ")));
        Due.due(what + " " + got, got.equals(want) ? 1 : 0, 1);
    }
}
