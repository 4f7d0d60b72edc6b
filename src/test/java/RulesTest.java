import java.io.IOException;
import java.lang.reflect.Constructor;
import java.lang.reflect.Field;
import java.lang.reflect.Method;
import java.lang.reflect.Modifier;
import java.nio.file.Files;
import java.nio.file.Path;
import java.util.List;
import java.util.TreeSet;
import java.util.regex.Matcher;
import java.util.regex.Pattern;

/** The face as the document has it, and rules of the language that can be seen in the program's text. */
public final class RulesTest {
    private static final Path SOURCE = Path.of("src/main/java/HeatPinch.java");
    private static final Path DOCUMENT = Path.of("../shared/DOC.md");

    private static int wrong = 0;

    private static void fault(String what) {
        wrong++;
        System.out.println(what);
    }

    private static void same(String what, Object got, Object want) {
        if (!got.equals(want)) {
            fault(what + " is " + got + ", due is " + want);
        }
    }

    private static String signature(Method m) {
        StringBuilder s = new StringBuilder(m.getReturnType() + " " + m.getName() + "(");
        for (Class<?> p : m.getParameterTypes()) {
            s.append(s.charAt(s.length() - 1) == '(' ? "" : ", ").append(p);
        }
        s.append(')');
        for (Class<?> e : m.getExceptionTypes()) {
            s.append(" throws ").append(e.getSimpleName());
        }
        return s.toString();
    }

    private static TreeSet<String> faceOfDocument() throws IOException {
        TreeSet<String> face = new TreeSet<>();
        Pattern method = Pattern.compile("(?m)^    public (\\w+ \\w+)\\((.*?)\\)(.*);$");
        Matcher m = method.matcher(Files.readString(DOCUMENT));
        while (m.find()) {
            face.add(m.group(1) + "(" + m.group(2).replaceAll(" \\w+(,|$)", "$1") + ")" + m.group(3));
        }
        return face;
    }

    private static void faceIsTheDocuments() throws IOException {
        TreeSet<String> face = new TreeSet<>();
        TreeSet<String> open = new TreeSet<>();
        TreeSet<String> hidden = new TreeSet<>();
        for (Method m : HeatPinch.class.getDeclaredMethods()) {
            if (Modifier.isPrivate(m.getModifiers())) {
                hidden.add(m.getName());
            } else {
                face.add(signature(m));
                open.add(m.getName());
                same("public " + m.getName(), Modifier.isPublic(m.getModifiers()), true);
            }
        }
        same("the face", face, faceOfDocument());
        same("how many methods", face.size(), 36);
        hidden.retainAll(open);
        same("private methods that bear a public name", hidden, new TreeSet<String>());
        for (Field f : HeatPinch.class.getDeclaredFields()) {
            same("private " + f.getName(), Modifier.isPrivate(f.getModifiers()), !f.getName().equals("NONE"));
        }
        Constructor<?>[] made = HeatPinch.class.getDeclaredConstructors();
        same("constructors", made.length == 1 && Modifier.isPublic(made[0].getModifiers()), true);
        same("final", Modifier.isFinal(HeatPinch.class.getModifiers()), true);
        for (Class<?> c : HeatPinch.class.getDeclaredClasses()) {
            same("static " + c, Modifier.isStatic(c.getModifiers()), true);
            same("few fields of " + c, c.getDeclaredFields().length <= 20, true);
            for (Method m : c.getDeclaredMethods()) {
                same(c + " bears the public name " + m.getName(), open.contains(m.getName()), false);
            }
        }
        same("few classes", HeatPinch.class.getDeclaredClasses().length < 12, true);
    }

    private static void textKeepsTheRules(List<String> lines) {
        String[] banned = {"->", "::", "\\btry\\b", "\\bcatch\\b", "\\bfinally\\b", "\\bsynchronized\\b", "\\bassert\\b",
            "\\bSystem\\.(?!arraycopy)", "\\bdouble\\b", "\\bfloat\\b", "Exact\\(", "\\bThread\\b", "\\bRandom\\b",
            "^package\\b", "\\btoString\\b", "\\bhashCode\\b", "\\bequals\\b", "[^\\x00-\\x7f]"};
        Pattern fresh = Pattern.compile("^ +(private )?final \\S+ \\w+ = new [^;]*;$|^ +throw new NoSuchElementException\\(\"[^\"]*\"\\);$");
        for (int i = 0; i < lines.size(); i++) {
            String line = lines.get(i);
            String code = line.replaceAll("^\\s*(/?\\*|//).*", "");
            for (String b : banned) {
                if (Pattern.compile(b).matcher(code).find()) {
                    fault("line " + (i + 1) + " has " + b + ": " + line);
                }
            }
            if (code.contains("new ") && !fresh.matcher(code).matches()) {
                fault("line " + (i + 1) + " makes an object outside a field: " + line);
            }
            if (line.startsWith("import") && !line.equals("import java.util.NoSuchElementException;")) {
                fault("line " + (i + 1) + ": " + line);
            }
        }
    }

    private static void methodsAreShort(List<String> lines) {
        int begin = -1;
        for (int i = 0; i < lines.size(); i++) {
            if (lines.get(i).matches("^( {4}| {8})\\S.*\\) (throws \\w+ )?\\{$")) {
                begin = i;
            } else if (begin >= 0 && lines.get(i).matches("^( {4}| {8})\\}$")) {
                if (i - begin > 60) {
                    fault("line " + (begin + 1) + ": a method of " + (i - begin) + " lines");
                }
                begin = -1;
            }
        }
    }

    public static void main(String[] args) throws IOException {
        List<String> lines = Files.readAllLines(SOURCE);
        faceIsTheDocuments();
        textKeepsTheRules(lines);
        methodsAreShort(lines);
        System.out.println(wrong == 0 ? "the rules are kept" : wrong + " faults");
        if (wrong != 0) {
            System.exit(1);
        }
    }
}
