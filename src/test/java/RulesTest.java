import java.lang.reflect.Constructor;
import java.lang.reflect.Field;
import java.lang.reflect.Method;
import java.lang.reflect.Modifier;
import java.nio.file.Files;
import java.nio.file.Path;
import java.util.ArrayList;
import java.util.List;
import java.util.regex.Matcher;
import java.util.regex.Pattern;

/** Those rules of LANGUAGE.md that can be seen in the text of the program, or in its classes. */
public final class RulesTest {
    private static final Path SOURCE = Path.of("src/main/java/OneBitLoop.java");
    /** No call throws, so nothing is caught; floats are read by their bits. */
    private static final List<String> UNUSED = List.of("\\btry\\b", "\\bcatch\\b", "\\bthrow\\b", "\\bfinally\\b",
        "\\bassert\\b", "\\bsynchronized\\b", "->", "::", "\\bfloat\\b", "\\bdouble\\b", "\\bpackage\\b", "Exact\\(",
        "\\bRandom\\b", "\\bThread\\b", "System\\.(?!arraycopy\\b)", "_VALUE\\b", "[^\\x00-\\x7F]");

    private static int wrong = 0;

    private static void fault(String text) {
        wrong++;
        System.out.println(text);
    }

    public static void main(String[] args) throws Exception {
        String all = Files.readString(SOURCE);
        // comments are free
        String code = all.replaceAll("(?s)/\\*.*?\\*/", "").replaceAll("//[^\n]*", "");
        for (String word : UNUSED) {
            if (Pattern.compile(word).matcher(code).find()) {
                fault("the program holds " + word);
            }
        }
        Matcher imports = Pattern.compile("import ([^;]*);").matcher(code);
        while (imports.find()) {
            if (!imports.group(1).equals("java.util.Arrays")) {
                fault("the program imports " + imports.group(1));
            }
        }
        Matcher statics = Pattern.compile("\\bstatic (?!final|boolean \\w+\\(|int \\w+\\(|long \\w+\\()").matcher(code);
        if (statics.find()) {
            fault("something static is neither final nor a method");
        }
        int classes = code.split("\\bclass\\b", -1).length - 1;
        if (classes > 12) {
            fault("the program has " + classes + " classes");
        }
        methodsAreShort(all.split("\n"));
        classesAreAsTold();
        System.out.println(wrong == 0 ? "the rules are kept" : wrong + " faults against the rules");
        if (wrong != 0) {
            System.exit(1);
        }
    }

    private static void methodsAreShort(String[] lines) {
        int begun = -1;
        String end = "";
        for (int k = 0; k < lines.length; k++) {
            if (lines[k].matches(" {4,8}[a-z].*\\) \\{") && !lines[k].trim().matches("(if|for|while|switch|else).*")) {
                begun = k;
                end = lines[k].replaceAll("\\S.*", "") + "}";
            } else if (begun >= 0 && lines[k].equals(end)) {
                if (k - begun > 60) {
                    fault("a long method: " + lines[begun].trim());
                }
                begun = -1;
            }
        }
    }

    /** Rules 1, 2, 5 and 11. */
    private static void classesAreAsTold() {
        List<String> face = new ArrayList<>();
        for (Method m : OneBitLoop.class.getDeclaredMethods()) {
            if (Modifier.isPublic(m.getModifiers())) {
                face.add(m.getName());
            }
        }
        classIsAsTold(OneBitLoop.class, face);
        for (Class<?> inside : OneBitLoop.class.getDeclaredClasses()) {
            int seen = inside.getModifiers();
            if (!Modifier.isStatic(seen) || Modifier.isPublic(seen) || Modifier.isProtected(seen)) {
                fault(inside.getName() + " is not static, or is seen from outside");
            }
            classIsAsTold(inside, face);
        }
    }

    private static void classIsAsTold(Class<?> one, List<String> face) {
        for (Method m : one.getDeclaredMethods()) {
            if (!Modifier.isPublic(m.getModifiers()) && face.contains(m.getName())) {
                fault(m + " bears the name of a public one");
            }
            if (m.getParameterCount() > 7) {
                fault(m + " takes more than seven");
            }
        }
        for (Constructor<?> c : one.getDeclaredConstructors()) {
            if (c.getParameterCount() > 7) {
                fault(c + " takes more than seven");
            }
        }
        int fields = 0;
        for (Field f : one.getDeclaredFields()) {
            if (!Modifier.isStatic(f.getModifiers())) {
                fields++;
            } else if (!Modifier.isFinal(f.getModifiers()) || !f.getType().isPrimitive()) {
                fault(f + " is no constant");
            }
        }
        if (fields > 20) {
            fault(one.getName() + " has " + fields + " fields");
        }
    }
}
