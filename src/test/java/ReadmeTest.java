import java.lang.reflect.Field;
import java.lang.reflect.Method;
import java.lang.reflect.Modifier;
import java.net.URL;
import java.net.URLClassLoader;
import java.nio.file.Files;
import java.nio.file.Path;
import java.util.ArrayList;
import java.util.List;
import java.util.TreeSet;
import java.util.regex.Matcher;
import java.util.regex.Pattern;
import java.util.stream.Stream;
import javax.tools.ToolProvider;

/**
 * The calls of README.md, as they are printed there: each block is compiled as it stands and run on
 * its own, and each call must answer what is told behind it. Every call and every constant of the
 * face is shown, every test is named, and what the page quotes stands in the document.
 */
public final class ReadmeTest {
    private static final Path PAGE = Path.of("README.md");
    private static final Path DOCUMENT = Path.of("../shared/DOC.md");
    private static final Path TESTS = Path.of("src/test/java");
    private static final String CLASS = "PrintedCalls";

    private static int answers = 0;
    private static int wrong = 0;

    private static void fault(String text) {
        wrong++;
        System.out.println("README.md: " + text);
    }

    /** Called by the blocks; public, for they are loaded by another loader. */
    public static void due(String call, long got, long want) {
        answers++;
        if (got != want) {
            fault(call + " answered " + got + ", told is " + want);
        }
    }

    public static void main(String[] args) throws Exception {
        String page = Files.readString(PAGE);
        List<String> blocks = blocksOf(page);
        if (blocks.isEmpty()) {
            fault("no block of calls");
        }
        run(programOf(blocks));
        String printed = String.join("\n", blocks);
        showsTheFace(printed);
        namesTheTests(page);
        quotesTheDocument(page);
        System.out.println(answers + " answers of README.md, " + wrong + " faults");
        if (wrong != 0) {
            System.exit(1);
        }
    }

    // ---- the blocks

    private static List<String> blocksOf(String page) {
        List<String> blocks = new ArrayList<>();
        Matcher block = Pattern.compile("(?ms)^```java\n(.*?)^```$").matcher(page);
        while (block.find()) {
            blocks.add(block.group(1));
        }
        return blocks;
    }

    private static String programOf(List<String> blocks) {
        StringBuilder text = new StringBuilder("public final class " + CLASS + " {\n");
        for (Field f : OneBitLoop.class.getFields()) {
            text.append("static final int ").append(f.getName()).append(" = OneBitLoop.").append(f.getName()).append(";\n");
        }
        text.append("public static void go() {\n");
        for (String block : blocks) {
            text.append("{\n");
            for (String line : block.split("\n")) {
                text.append(asRun(line)).append('\n');
            }
            text.append("}\n");
        }
        return text.append("}\n}\n").toString();
    }

    /** A call, with the answer that is told behind it; any other statement as it is. */
    private static String asRun(String line) {
        if (!line.startsWith("x.")) {
            return line;
        }
        Matcher told = Pattern.compile("(x\\..*\\)); +// ([^:]+)(: .*)?").matcher(line);
        if (!told.matches()) {
            fault("no answer is told: " + line);
            return line;
        }
        return "ReadmeTest.due(\"" + told.group(1) + "\", " + told.group(1) + ", " + asLong(told.group(2)) + ");";
    }

    private static String asLong(String answer) {
        return answer.matches("-?[0-9]+") ? answer + "L" : answer;
    }

    private static void run(String program) throws Exception {
        Path place = Files.createTempDirectory("readme");
        try {
            Path source = place.resolve(CLASS + ".java");
            Files.writeString(source, program);
            int refused = ToolProvider.getSystemJavaCompiler().run(null, null, null,
                "-cp", System.getProperty("java.class.path"), "-d", place.toString(), source.toString());
            if (refused != 0) {
                fault("its blocks can't be compiled");
                return;
            }
            try (URLClassLoader loader = new URLClassLoader(new URL[] {place.toUri().toURL()})) {
                loader.loadClass(CLASS).getMethod("go").invoke(null);
            }
        } finally {
            removeAll(place);
        }
    }

    private static void removeAll(Path place) throws Exception {
        try (Stream<Path> inside = Files.list(place)) {
            for (Path file : inside.toList()) {
                Files.delete(file);
            }
        }
        Files.delete(place);
    }

    // ---- what the page must have

    private static void showsTheFace(String printed) {
        for (Method m : OneBitLoop.class.getDeclaredMethods()) {
            if (Modifier.isPublic(m.getModifiers()) && !printed.contains("x." + m.getName() + "(")) {
                fault("no block calls " + m.getName());
            }
        }
        for (Field f : OneBitLoop.class.getFields()) {
            if (!Pattern.compile("// " + f.getName() + "\\b").matcher(printed).find()) {
                fault("no block has the answer " + f.getName());
            }
        }
    }

    private static void namesTheTests(String page) throws Exception {
        TreeSet<String> there = new TreeSet<>();
        try (Stream<Path> files = Files.list(TESTS)) {
            files.forEach(file -> there.add(file.getFileName().toString().replace(".java", "")));
        }
        TreeSet<String> named = new TreeSet<>();
        Matcher name = Pattern.compile("`([A-Z][A-Za-z]*Test)`").matcher(page);
        while (name.find()) {
            named.add(name.group(1));
        }
        if (!named.equals(there)) {
            fault("it names the tests " + named + ", there are " + there);
        }
    }

    /** Outside of the blocks, what stands between quotation marks is the document's. */
    private static void quotesTheDocument(String page) throws Exception {
        String document = Files.readString(DOCUMENT).replaceAll("\\s+", " ");
        String words = page.replaceAll("(?ms)^```.*?^```$", "").replaceAll("\\s+", " ");
        if (!words.contains("\"They change nothing but as told.\"")) {
            fault("it does not say what the document says of refusals");
        }
        Matcher quotation = Pattern.compile("\"([^\"]*)\"").matcher(words);
        while (quotation.find()) {
            if (!document.contains(quotation.group(1))) {
                fault("the document does not say \"" + quotation.group(1) + "\"");
            }
        }
    }
}
