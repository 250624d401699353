import java.io.IOException;
import java.lang.reflect.Field;
import java.lang.reflect.Method;
import java.lang.reflect.Modifier;
import java.nio.file.Files;
import java.nio.file.Path;
import java.util.Arrays;
import java.util.List;
import java.util.Set;
import java.util.TreeSet;

/** The face of the class is the document's, to the throws clauses, and its source keeps to LANGUAGE.md where a test can tell. */
public final class FaceTests {
    private static final Path SOURCE = Path.of("src/main/java/Festivalgrid.java");

    private static final List<String> FACE = List.of(
        "int startSet(int) Argument State",
        "boolean setChange(int,int) Index Argument",
        "boolean setBound(int,int) Index Argument",
        "boolean setWind(int,int) Index Argument",
        "int plan(int,int,int,int,int,int,int) Index Argument State",
        "int reason(int,int,int,int,int,int,int) Index Argument State",
        "boolean move(int,int) Index Argument State",
        "void drop(int) Index State",
        "int start(int) Index",
        "int firstStart(int,int) Index Argument State",
        "int type(char) Argument State",
        "int wipe()",
        "boolean grant(int) Index State",
        "int ofAct(int,int) Index",
        "int storm(int,int,int) Index Argument State",
        "int load(int,int) Index Argument",
        "int noise(int,int) Index Argument",
        "int channels(int) Argument",
        "boolean isFineByMinutes()");

    private static int wrong;

    private static void due(String what, Object want, Object got) {
        if (!want.equals(got)) {
            wrong++;
            System.out.println(what + " is " + got + ", due is " + want);
        }
    }

    private static String shortName(Class<?> type) {
        return type.getSimpleName().replace("IllegalArgumentException", "Argument")
            .replace("IllegalStateException", "State").replace("IndexOutOfBoundsException", "Index");
    }

    private static String told(Method method) {
        StringBuilder text = new StringBuilder();
        text.append(method.getReturnType()).append(' ').append(method.getName()).append('(');
        text.append(String.join(",", Arrays.stream(method.getParameterTypes()).map(FaceTests::shortName).toList()));
        text.append(')');
        for (Class<?> thrown : method.getExceptionTypes()) {
            text.append(' ').append(shortName(thrown));
        }
        return text.toString();
    }

    private static void methods() {
        Set<String> face = new TreeSet<>();
        Set<String> publicNames = new TreeSet<>();
        for (Method method : Festivalgrid.class.getDeclaredMethods()) {
            if (!Modifier.isPrivate(method.getModifiers())) {
                face.add(told(method));
                publicNames.add(method.getName());
                due(method.getName() + " public", Modifier.PUBLIC, method.getModifiers());
            }
        }
        due("the face", new TreeSet<>(FACE), face);
        for (Method method : Festivalgrid.class.getDeclaredMethods()) {
            if (Modifier.isPrivate(method.getModifiers())) {
                due("a private " + method.getName() + " bears a public name", false, publicNames.contains(method.getName()));
            }
            due(method.getName() + " takes at most seven", true, method.getParameterCount() <= 7);
        }
    }

    private static void fields() {
        int own = 0;
        for (Field field : Festivalgrid.class.getDeclaredFields()) {
            boolean isStatic = Modifier.isStatic(field.getModifiers());
            due(field.getName() + " open", field.getName().equals("NONE"), !Modifier.isPrivate(field.getModifiers()));
            due(field.getName() + " final if static", true, !isStatic || Modifier.isFinal(field.getModifiers()));
            own += isStatic ? 0 : 1;
        }
        due("at most twenty fields", true, own <= 20);
    }

    private static void source() throws IOException {
        String text = Files.readString(SOURCE);
        due("signs of 1 to 127 alone", true, text.chars().allMatch(sign -> sign > 0 && sign < 128));
        for (String banned : List.of("->", "::", "catch", "finally", "synchronized", "assert", "package ", "static {",
                "System.", "Random", "Thread", "hashCode", "instanceof", "Exact(")) {
            due("'" + banned + "' in the source", false, text.contains(banned));
        }
        for (String line : text.split("\n")) {
            if (line.startsWith("import")) {
                due("an import", "import java.util.Arrays;", line);
            }
        }
    }

    public static void main(String[] args) throws IOException {
        due("the class", Modifier.PUBLIC | Modifier.FINAL, Festivalgrid.class.getModifiers());
        due("constructors", 1, Festivalgrid.class.getDeclaredConstructors().length);
        due("the constructor", Modifier.PUBLIC, Festivalgrid.class.getDeclaredConstructors()[0].getModifiers());
        for (Class<?> inside : Festivalgrid.class.getDeclaredClasses()) {
            due(inside.getName() + " static", true, Modifier.isStatic(inside.getModifiers()));
        }
        methods();
        fields();
        source();
        System.out.println(wrong == 0 ? "FaceTests: the face is as due" : wrong + " things are not as due");
        if (wrong != 0) System.exit(1);
    }
}
