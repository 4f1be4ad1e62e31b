import java.lang.reflect.Constructor;
import java.lang.reflect.Field;
import java.lang.reflect.Method;
import java.lang.reflect.Modifier;
import java.util.Arrays;
import java.util.Set;
import java.util.TreeSet;

/** The face of the class is the document's, and nothing else is seen from outside. */
public final class FaceTest {
    private static final String[] METHODS = {
        "int reel(int, int, int)", "int lose(int)", "int put(int, int, int, long)", "long get(int, int, int)",
        "int copy(int, int, int, int, int)", "long sample(int, int)", "int stage(int, long, int)",
        "int levels(int, long, long)", "int level(int, long)", "int lot(int, long)", "int step(long)",
        "int run(int, int, int)", "int undo(int)", "int clear()", "long stageAt(int, int)", "long levelAt(int)",
        "long record(int, int)", "int forge(int, int, long)", "int check()", "long read(int)",
        "int weight(int, int)", "long sums(int, int)", "int trace(int)", "int hold(long, int)", "long held(int)",
        "int reach(long, long, long)", "long leaving(int)", "long worst(int, long, long)", "long worstAt(int)",
        "int count(int)", "long digest()"};
    private static final String[] CONSTANTS = {"NONE", "BAD", "STATE", "FULL", "SPENT", "GREAT", "NOT"};

    private static int wrong = 0;

    private static void due(String what, Object got, Object want) {
        if (!got.equals(want)) {
            wrong++;
            System.out.println(what + " is " + got + ", due is " + want);
        }
    }

    private static String told(Method m) {
        StringBuilder text = new StringBuilder(m.getReturnType() + " " + m.getName() + "(");
        Class<?>[] types = m.getParameterTypes();
        for (int k = 0; k < types.length; k++) {
            text.append(k == 0 ? "" : ", ").append(types[k]);
        }
        return text.append(")").toString();
    }

    public static void main(String[] args) throws Exception {
        Class<?> face = OneBitLoop.class;
        due("public final", Modifier.isPublic(face.getModifiers()) && Modifier.isFinal(face.getModifiers()), true);
        Set<String> seen = new TreeSet<>();
        Set<String> names = new TreeSet<>();
        for (Method m : face.getDeclaredMethods()) {
            if (!Modifier.isPrivate(m.getModifiers())) {
                due("public " + m.getName(), Modifier.isPublic(m.getModifiers()), true);
                seen.add(told(m));
                names.add(m.getName());
            }
        }
        due("methods", seen, new TreeSet<>(Arrays.asList(METHODS)));
        for (Method m : face.getDeclaredMethods()) {
            due("private " + m.getName() + " with a public name",
                Modifier.isPrivate(m.getModifiers()) && names.contains(m.getName()), false);
        }
        for (int k = 0; k < CONSTANTS.length; k++) {
            Field f = face.getField(CONSTANTS[k]);
            due(CONSTANTS[k], f.getInt(null), -1 - k);
            due(CONSTANTS[k] + " modifiers", Modifier.toString(f.getModifiers()), "public static final");
        }
        int open = 0;
        for (Field f : face.getDeclaredFields()) {
            open += Modifier.isPrivate(f.getModifiers()) ? 0 : 1;
        }
        due("fields that are seen", open, CONSTANTS.length);
        Constructor<?>[] made = face.getDeclaredConstructors();
        due("constructors", made.length, 1);
        due("constructor is public", Modifier.isPublic(made[0].getModifiers()), true);
        due("constructor's parameters", made[0].getParameterCount(), 0);
        System.out.println(wrong == 0 ? "the face is as due" : wrong + " faults of the face");
        if (wrong != 0) {
            System.exit(1);
        }
    }
}
