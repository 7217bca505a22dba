import java.lang.reflect.Constructor;
import java.lang.reflect.Field;
import java.lang.reflect.Method;
import java.lang.reflect.Modifier;
import java.nio.file.Files;
import java.nio.file.Path;
import java.util.ArrayList;
import java.util.Arrays;
import java.util.List;
import java.util.TreeSet;
import java.util.regex.Pattern;

/** The public face as the document has it, and those rules of LANGUAGE.md that can be seen from outside. */
public final class FaceTest {
    private static int wrong = 0;

    private static void due(String what, Object got, Object want) {
        if (want.equals(got)) return;
        wrong++;
        System.out.println(what + ": " + got + ", due is " + want);
    }

    public static void main(String[] args) throws Exception {
        face();
        classesInside();
        words();
        System.out.println(wrong == 0 ? "the face is as due" : wrong + " things of the face are not as due");
        if (wrong != 0) System.exit(1);
    }

    private static void face() {
        Class<?> c = StrongCells.class;
        due("public final", Modifier.isPublic(c.getModifiers()) && Modifier.isFinal(c.getModifiers()), true);
        TreeSet<String> methods = new TreeSet<>();
        for (Method m : c.getDeclaredMethods()) {
            if (!Modifier.isPrivate(m.getModifiers())) methods.add(m.getReturnType() + " " + m.getName() + m.getParameterCount() + intsAlone(m));
        }
        due("methods", methods.toString(), new TreeSet<>(Arrays.asList("int told1", "int cell1", "int process2", "int act2", "int ways1",
            "int build5", "int clear0", "int begin2", "int step2", "int run0", "int bad0", "int drift1", "int undo1", "int write2",
            "int tear0", "int seed1", "int keep1", "int goBack1")).toString());
        List<String> fields = new ArrayList<>();
        for (Field f : c.getDeclaredFields()) if (!Modifier.isPrivate(f.getModifiers())) fields.add(f.getName());
        due("constants", fields.toString(), "[NONE, UNKNOWN, OUTSIDE, NOT, FULL]");
        Constructor<?>[] all = c.getDeclaredConstructors();
        due("constructors", all.length + " " + all[0].getParameterCount() + Modifier.isPublic(all[0].getModifiers()), "1 0true");
        due("NONE", StrongCells.NONE, -1);
        due("UNKNOWN", StrongCells.UNKNOWN, -1000000001);
        due("OUTSIDE", StrongCells.OUTSIDE, -1000000002);
        due("NOT", StrongCells.NOT, -1000000003);
        due("FULL", StrongCells.FULL, -1000000004);
    }

    private static String intsAlone(Method m) {
        for (Class<?> p : m.getParameterTypes()) if (p != int.class) return " with " + p;
        return "";
    }

    private static void classesInside() {
        TreeSet<String> face = new TreeSet<>();
        for (Method m : StrongCells.class.getDeclaredMethods()) if (Modifier.isPublic(m.getModifiers())) face.add(m.getName());
        for (Class<?> c : StrongCells.class.getDeclaredClasses()) {
            int is = c.getModifiers();
            due(c + " is static", Modifier.isStatic(is), true);
            due(c + " is not public", Modifier.isPublic(is) || Modifier.isProtected(is), false);
            for (Method m : c.getDeclaredMethods()) due(c + "." + m.getName() + " bears a public name", face.contains(m.getName()), false);
            for (Field f : c.getDeclaredFields()) {
                int field = f.getModifiers();
                if (Modifier.isStatic(field)) due(f + " is final", Modifier.isFinal(field), true);
            }
        }
        due("at most twelve classes", StrongCells.class.getDeclaredClasses().length < 12, true);
    }

    private static void words() throws Exception {
        String text = Files.readString(Path.of("src/main/java/StrongCells.java"));
        String code = text.replaceAll("(?s)/\\*.*?\\*/", " ").replaceAll("//[^\n]*", " ");
        String[] ruledOut = {"package", "throw", "throws", "try", "catch", "finally", "synchronized", "assert", "protected", "float", "double",
            "System\\.(?!arraycopy)", "Thread", "Random", "->", "::", "hashCode", "toString", "equals"};
        for (String word : ruledOut) {
            String edged = word.matches("\\w+") ? "\\b" + word + "\\b" : word;
            due("the word " + word, Pattern.compile(edged).matcher(code).find(), false);
        }
        for (String line : code.split("\n")) {
            if (line.startsWith("import")) due("import", line.trim(), "import java.util.Arrays;");
        }
    }
}
