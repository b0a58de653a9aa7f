import java.io.IOException;
import java.lang.reflect.Constructor;
import java.lang.reflect.Field;
import java.lang.reflect.Method;
import java.lang.reflect.Modifier;
import java.nio.file.Files;
import java.nio.file.Path;
import java.util.ArrayList;
import java.util.List;
import java.util.NoSuchElementException;
import java.util.Set;
import java.util.TreeSet;

/** The public face is the document's and no other, and the source keeps to what LANGUAGE.md leaves. */
public final class FaceTest {
    private static final String[] FACE = {
        "feed(int,int,int,int,int):int", "end(int):boolean", "table():int", "events():int",
        "fault():int", "set(int,int):boolean", "play(int,int):int", "back():int", "clear():int",
        "count(int):int", "worth(int,int):int", "told(int,int):int", "innings(int,int):int",
        "cut(int,int,int):int", "over(int,int,int):int", "block(int,int):int", "blockNow():int",
        "inBlock(int,int,int):int", "fall(int,int,int):int", "lastStand(int):int",
        "bestStand(int):int", "made(int,int):int", "bestOver(int):int", "rate(int,boolean):int",
        "projected():int", "target():int", "par():int", "result():int", "margin():int",
        "needs(int):int", "broken(int):int", "ifCut(int):int", "ifClosed():int", "ifRuns(int):int",
        "leastCut(int):int", "after(int,int):int", "firstAhead():int"};

    private static final String[] NOT_LEFT_BY_THE_LANGUAGE = {
        "->", "::", "catch", "finally", "synchronized", "assert ", "Exact(", "static {",
        "equals(", "hashCode", "toString", "double", "float", "System.", "import static"};

    private static int wrong = 0;

    private static void check(boolean holds, String what) {
        if (!holds) {
            wrong++;
            System.out.println("does not hold: " + what);
        }
    }

    private static String shape(Method method) {
        StringBuilder text = new StringBuilder(method.getName()).append('(');
        Class<?>[] parameters = method.getParameterTypes();
        for (int k = 0; k < parameters.length; k++) {
            text.append(k == 0 ? "" : ",").append(parameters[k].getName());
        }
        return text.append("):").append(method.getReturnType().getName()).toString();
    }

    private static void checkMethods() {
        Set<String> due = new TreeSet<>(Set.of(FACE));
        Set<String> names = new TreeSet<>();
        Set<String> open = new TreeSet<>();
        for (Method method : CutMatch.class.getDeclaredMethods()) {
            if (Modifier.isPrivate(method.getModifiers())) {
                continue;
            }
            open.add(shape(method));
            names.add(method.getName());
            boolean mayThrow = method.getName().equals("innings") || method.getName().equals("cut");
            Class<?>[] thrown = method.getExceptionTypes();
            check(thrown.length == (mayThrow ? 1 : 0), "what " + method + " declares");
            check(thrown.length == 0 || thrown[0] == NoSuchElementException.class, "its kind: " + method);
        }
        check(open.equals(due), "methods " + open);
        for (Class<?> inside : CutMatch.class.getDeclaredClasses()) {
            check(Modifier.isStatic(inside.getModifiers()), "static: " + inside);
            for (Method method : inside.getDeclaredMethods()) {
                check(!names.contains(method.getName()), "a name of its own: " + method);
            }
        }
        for (Method method : CutMatch.class.getDeclaredMethods()) {
            boolean hidden = Modifier.isPrivate(method.getModifiers());
            check(!hidden || !names.contains(method.getName()), "a name of its own: " + method);
        }
    }

    private static void checkFields() throws ReflectiveOperationException {
        for (Field field : CutMatch.class.getDeclaredFields()) {
            boolean hidden = Modifier.isPrivate(field.getModifiers());
            check(hidden || field.getName().equals("NONE"), "private: " + field);
        }
        Field none = CutMatch.class.getField("NONE");
        check(none.getModifiers() == (Modifier.PUBLIC | Modifier.STATIC | Modifier.FINAL), "NONE");
        check(none.getInt(null) == -1, "NONE is -1");
    }

    private static void checkConstructors() {
        Constructor<?>[] made = CutMatch.class.getDeclaredConstructors();
        check(made.length == 1 && made[0].getParameterCount() == 0, "one constructor");
        check(Modifier.isPublic(made[0].getModifiers()), "it is public");
        check(CutMatch.class.getModifiers() == (Modifier.PUBLIC | Modifier.FINAL), "public and final");
        check(CutMatch.class.getPackageName().isEmpty(), "no package");
    }

    /** Names of parameters, too: each line of the document's face stands in the source. */
    private static void checkFaceLines(String source) throws IOException {
        Path path = Path.of("../shared/DOC.md");
        if (!Files.exists(path)) {
            System.out.println("the document is not there: its face's lines are not looked at");
            return;
        }
        int lines = 0;
        for (String line : Files.readAllLines(path)) {
            boolean member = line.startsWith("    public ");
            lines += member ? 1 : 0;
            String head = line.contains("=") ? line.strip() : line.strip().replace(";", " {");
            check(!member || source.contains("\n    " + head), "the document's " + line.strip());
        }
        check(lines == FACE.length + 2, "the document's face has " + lines + " lines");
    }

    /** Rule 11, and the room: what is made is made by constructors, but for what is thrown. */
    private static void checkSizes(String source) {
        Class<?>[] inside = CutMatch.class.getDeclaredClasses();
        check(inside.length < 12, "classes: " + inside.length);
        List<Class<?>> all = new ArrayList<>(List.of(inside));
        all.add(CutMatch.class);
        for (Class<?> one : all) {
            int fields = 0;
            for (Field field : one.getDeclaredFields()) {
                fields += Modifier.isStatic(field.getModifiers()) ? 0 : 1;
            }
            check(fields <= 20, "fields of " + one + ": " + fields);
            for (Method method : one.getDeclaredMethods()) {
                check(method.getParameterCount() <= 7, "parameters of " + method);
            }
        }
        for (String line : source.split("\n")) {
            boolean makes = line.contains(" new ");
            check(!makes || line.contains("throw new ") || line.matches(" +\\w+ = new .*"), "made here: " + line);
        }
    }

    private static void checkSource() throws IOException {
        String source = Files.readString(Path.of("src/main/java/CutMatch.java"));
        checkFaceLines(source);
        checkSizes(source);
        for (String word : NOT_LEFT_BY_THE_LANGUAGE) {
            check(!source.contains(word), "without " + word);
        }
        int imports = source.split("import ", -1).length - 1;
        check(imports == 1, "one import alone");
    }

    public static void main(String[] args) throws Exception {
        checkMethods();
        checkFields();
        checkConstructors();
        checkSource();
        System.out.println(wrong == 0 ? "the face is as due" : wrong + " do not hold");
        if (wrong != 0) {
            System.exit(1);
        }
    }
}
