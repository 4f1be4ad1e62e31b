import java.nio.file.Files;
import java.nio.file.Path;
import java.util.List;
import java.util.regex.Matcher;
import java.util.regex.Pattern;

/** Those rules of LANGUAGE.md that can be seen in the text of the program. */
public final class RulesTest {
    private static final Path SOURCE = Path.of("src/main/java/OneBitLoop.java");
    /** No call throws, so nothing is caught; floats are read by their bits. */
    private static final List<String> UNUSED = List.of("\\btry\\b", "\\bcatch\\b", "\\bthrow\\b", "\\bfinally\\b",
        "\\bassert\\b", "\\bsynchronized\\b", "->", "::", "\\bfloat\\b", "\\bdouble\\b", "\\bpackage\\b", "Exact\\(",
        "\\bRandom\\b", "\\bThread\\b", "System\\.(?!arraycopy\\b)", "_VALUE\\b", "[^\\x00-\\x7F]");

    private static int wrong = 0;

    private static void fault(String text) {
        wrong++;
        System.out.println(text);
    }

    public static void main(String[] args) throws Exception {
        String all = Files.readString(SOURCE);
        // comments are free
        String code = all.replaceAll("(?s)/\\*.*?\\*/", "").replaceAll("//[^\n]*", "");
        for (String word : UNUSED) {
            if (Pattern.compile(word).matcher(code).find()) {
                fault("the program holds " + word);
            }
        }
        Matcher imports = Pattern.compile("import ([^;]*);").matcher(code);
        while (imports.find()) {
            if (!imports.group(1).equals("java.util.Arrays")) {
                fault("the program imports " + imports.group(1));
            }
        }
        Matcher statics = Pattern.compile("\\bstatic (?!final|boolean \\w+\\(|int \\w+\\(|long \\w+\\()").matcher(code);
        if (statics.find()) {
            fault("something static is neither final nor a method");
        }
        int classes = code.split("\\bclass\\b", -1).length - 1;
        if (classes > 12) {
            fault("the program has " + classes + " classes");
        }
        methodsAreShort(all.split("\n"));
        System.out.println(wrong == 0 ? "the rules are kept" : wrong + " faults against the rules");
        if (wrong != 0) {
            System.exit(1);
        }
    }

    private static void methodsAreShort(String[] lines) {
        int begun = -1;
        String end = "";
        for (int k = 0; k < lines.length; k++) {
            if (lines[k].matches(" {4,8}[a-z].*\\) \\{") && !lines[k].trim().matches("(if|for|while|switch|else).*")) {
                begun = k;
                end = lines[k].replaceAll("\\S.*", "") + "}";
            } else if (begun >= 0 && lines[k].equals(end)) {
                if (k - begun > 60) {
                    fault("a long method: " + lines[begun].trim());
                }
                begun = -1;
            }
        }
    }
}
