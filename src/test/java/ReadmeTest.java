import java.io.IOException;
import java.lang.reflect.Method;
import java.lang.reflect.Modifier;
import java.net.URL;
import java.net.URLClassLoader;
import java.nio.file.Files;
import java.nio.file.Path;
import java.util.List;
import java.util.Set;
import java.util.TreeSet;
import java.util.regex.Matcher;
import java.util.regex.Pattern;
import javax.tools.JavaCompiler;
import javax.tools.ToolProvider;

/**
 * The README's examples, run as they stand there: a call with a remark answers the number at the
 * remark's begin, and tells the numbers of the row that the remark names. All of the face is named.
 */
public final class ReadmeTest {
    private static final Pattern BLOCK = Pattern.compile("(?s)```java\n(.*?)```");
    private static final Pattern REMARK = Pattern.compile("^(x\\.\\w+\\(.*\\)); +// (-?\\d+)(.*)$");
    private static final Pattern ROW = Pattern.compile("row\\((\\d+)\\) is (-?\\d+)");
    private static final Pattern NAME = Pattern.compile("`(\\w+)`");

    private static int wrong = 0;
    private static int looked = 0;

    /** Called by what is made of the examples. */
    public static void due(String call, long got, long want) {
        looked++;
        if (got != want) {
            fault("the README says " + want + " of " + call + ", it answered " + got);
        }
    }

    private static void fault(String what) {
        wrong++;
        System.out.println(what);
    }

    private static String check(String call, String want) {
        return "ReadmeTest.due(\"" + call + "\", " + call + ", " + want + "L);\n";
    }

    private static String programOf(String readme) {
        StringBuilder s = new StringBuilder("public class Example implements Runnable { public void run() {\n");
        Matcher blocks = BLOCK.matcher(readme);
        while (blocks.find()) {
            for (String line : blocks.group(1).split("\n")) {
                Matcher m = REMARK.matcher(line);
                if (!m.matches()) {
                    s.append(line).append('\n');
                    continue;
                }
                s.append(check(m.group(1), m.group(2)));
                Matcher row = ROW.matcher(m.group(3));
                while (row.find()) {
                    s.append(check("x.row(" + row.group(1) + ")", row.group(2)));
                }
            }
        }
        return s.append("}}\n").toString();
    }

    private static void runExamples(String readme) throws IOException, ReflectiveOperationException {
        Path dir = Files.createTempDirectory("readme");
        Path source = dir.resolve("Example.java");
        Files.writeString(source, programOf(readme));
        JavaCompiler compiler = ToolProvider.getSystemJavaCompiler();
        String path = System.getProperty("java.class.path");
        int failed = compiler.run(null, null, null, "-cp", path, "-d", dir.toString(), source.toString());
        if (failed != 0) {
            fault("the README's examples do not compile");
        } else {
            URL[] where = {dir.toUri().toURL()};
            try (URLClassLoader loader = new URLClassLoader(where, ReadmeTest.class.getClassLoader())) {
                ((Runnable) loader.loadClass("Example").getDeclaredConstructor().newInstance()).run();
            }
        }
        for (Path p : List.of(dir.resolve("Example.class"), source, dir)) {
            Files.deleteIfExists(p);
        }
    }

    private static void namesTheFace(String readme) {
        Set<String> missing = new TreeSet<>();
        for (Method m : HeatPinch.class.getDeclaredMethods()) {
            if (Modifier.isPublic(m.getModifiers())) {
                missing.add(m.getName());
            }
        }
        Matcher name = NAME.matcher(readme);
        while (name.find()) {
            missing.remove(name.group(1));
        }
        if (!missing.isEmpty()) {
            fault("the README does not name " + missing);
        }
    }

    public static void main(String[] args) throws IOException, ReflectiveOperationException {
        String readme = Files.readString(Path.of("README.md"));
        runExamples(readme);
        namesTheFace(readme);
        if (looked < 20) {
            fault("only " + looked + " answers were found in the README");
        }
        System.out.println(wrong == 0 ? looked + " answers of the README are as due" : wrong + " faults");
        if (wrong != 0) {
            System.exit(1);
        }
    }
}
