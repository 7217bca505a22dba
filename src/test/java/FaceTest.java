import java.lang.reflect.Constructor;
import java.lang.reflect.Field;
import java.lang.reflect.Method;
import java.lang.reflect.Modifier;
import java.util.ArrayList;
import java.util.Arrays;
import java.util.List;
import java.util.TreeSet;

/** The public face as the document has it, and nothing else that can be seen from outside. */
public final class FaceTest {
    private static int wrong = 0;

    private static void due(String what, Object got, Object want) {
        if (want.equals(got)) return;
        wrong++;
        System.out.println(what + ": " + got + ", due is " + want);
    }

    public static void main(String[] args) {
        face();
        System.out.println(wrong == 0 ? "the face is as due" : wrong + " things of the face are not as due");
        if (wrong != 0) System.exit(1);
    }

    private static void face() {
        Class<?> c = StrongCells.class;
        due("public final", Modifier.isPublic(c.getModifiers()) && Modifier.isFinal(c.getModifiers()), true);
        TreeSet<String> methods = new TreeSet<>();
        for (Method m : c.getDeclaredMethods()) {
            if (!Modifier.isPrivate(m.getModifiers())) methods.add(m.getReturnType() + " " + m.getName() + m.getParameterCount() + intsAlone(m));
        }
        due("methods", methods.toString(), new TreeSet<>(Arrays.asList("int told1", "int cell1", "int process2", "int act2", "int ways1",
            "int build5", "int clear0", "int begin2", "int step2", "int run0", "int bad0", "int drift1", "int undo1", "int write2",
            "int tear0", "int seed1", "int keep1", "int goBack1")).toString());
        List<String> fields = new ArrayList<>();
        for (Field f : c.getDeclaredFields()) {
            int is = f.getModifiers();
            if (Modifier.isPrivate(is)) continue;
            fields.add(f.getName());
            due(f.getName() + " is a constant", Modifier.isPublic(is) && Modifier.isStatic(is) && Modifier.isFinal(is) && f.getType() == int.class, true);
        }
        due("constants", fields.toString(), "[NONE, UNKNOWN, OUTSIDE, NOT, FULL]");
        Constructor<?>[] all = c.getDeclaredConstructors();
        due("constructors", all.length + " " + all[0].getParameterCount() + Modifier.isPublic(all[0].getModifiers()), "1 0true");
        due("NONE", StrongCells.NONE, -1);
        due("UNKNOWN", StrongCells.UNKNOWN, -1000000001);
        due("OUTSIDE", StrongCells.OUTSIDE, -1000000002);
        due("NOT", StrongCells.NOT, -1000000003);
        due("FULL", StrongCells.FULL, -1000000004);
    }

    private static String intsAlone(Method m) {
        for (Class<?> p : m.getParameterTypes()) if (p != int.class) return " with " + p;
        return "";
    }
}
