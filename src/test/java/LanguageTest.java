import java.io.IOException;
import java.io.PrintWriter;
import java.io.StringWriter;
import java.nio.file.Files;
import java.nio.file.Path;
import java.nio.file.Paths;
import java.util.ArrayList;
import java.util.Arrays;
import java.util.List;
import java.util.Map;
import java.util.Set;
import java.util.TreeMap;
import java.util.TreeSet;
import java.util.regex.Matcher;
import java.util.regex.Pattern;
import java.util.spi.ToolProvider;

/**
 * What of LANGUAGE.md can be told without reading the program: words and signs in the source, and, in the bytecode
 * that javap shows, what is called in the library, recursion, and how deep calls go.
 */
public final class LanguageTest {
    private static final Path SOURCE = Paths.get("src/main/java/MirrorLoom.java");
    private static final int MOST_CLASSES = 12;
    private static final int MOST_FIELDS = 20;
    private static final int MOST_PARAMETERS = 7;
    private static final int MOST_LINES = 60;
    private static final int DEEPEST = 8;

    /** Rules 2, 4, 5, 6, 9, 10 and 13, as far as a word or a sign tells a breach of them. */
    private static final String[] NOT_ALLOWED = {
        "\\bpackage\\b", "\\bimport\\b", "\\bprotected\\b", "\\bsynchronized\\b", "\\bassert\\b", "\\bfinally\\b",
        "\\bvolatile\\b", "\\bnative\\b", "\\bcatch \\((?!Illegal(?:State|Argument)Exception )", "->", "::", "Exact\\(",
        "\\bObject\\b", "\\bFloat\\b", "\\bDouble\\b", "\\bSystem\\.(?!arraycopy)", "\\bThread\\b", "\\bhashCode\\b",
        "while \\(true\\)", "for \\(;;\\)", "\\bstatic \\{"};

    /** What of rule 4 the class uses, and what the compiler writes for enums; a call more has to be looked up there. */
    private static final Set<String> LIBRARY = Set.of(
            "java/lang/Math.max", "java/lang/Math.min", "java/lang/String.length", "java/lang/String.charAt",
            "java/lang/Enum.valueOf", "java/lang/Enum.<init>", "java/lang/Object.<init>",
            "java/lang/IllegalArgumentException.<init>", "java/lang/IllegalStateException.<init>",
            "java/lang/IndexOutOfBoundsException.<init>");

    private static final Pattern CLASS_LINE = Pattern.compile("(?:\\w+ )*(?:class|enum) ([\\w$]+).* \\{");
    private static final Pattern METHOD_LINE = Pattern.compile("  (?:[^ ].*? )?([\\w$]+)\\((.*?)\\).*;");
    private static final Pattern FIELD_LINE = Pattern.compile("  [^ (]*[^(]* [\\w$]+;");
    private static final Pattern CALL = Pattern.compile("// (?:Interface)?Method (?:([\\w$/]+)\\.)?\"?([\\w$<>]+)\"?:.*");

    /** For each method of the class, what it calls. */
    private static final Map<String, Set<String>> CALLS = new TreeMap<>();

    private LanguageTest() {
    }

    private static String withoutCommentsAndTexts(String source) {
        return source.replaceAll("(?s)/\\*.*?\\*/", "").replaceAll("//.*", "").replaceAll("\"[^\"\n]*\"", "\"\"");
    }

    private static void words(String code) {
        for (String word : NOT_ALLOWED) {
            Matcher found = Pattern.compile(word).matcher(code);
            if (found.find()) {
                Due.fault("the source has what LANGUAGE.md does not allow: " + found.group());
            }
        }
        Matcher thrown = Pattern.compile("\\bthrow\\b(?! new (IllegalState|IllegalArgument|IndexOutOfBounds)Exception\\(\"\"\\);)")
                .matcher(code);
        Due.same("rule 6: a throw of another kind", thrown.find() ? 1 : 0, 0);
    }

    /** Rules 1 and 2: one public class, with private classes inside it, which are static, or enums. */
    private static void classes(String code) {
        Matcher kind = Pattern.compile("(?m)^( *)([\\w ]*)\\b(class|enum|interface|record) (\\w+)").matcher(code);
        int count = 0;
        while (kind.find()) {
            count++;
            String modifiers = kind.group(2).trim();
            boolean outside = kind.group(1).isEmpty() && modifiers.equals("public final") && kind.group(4).equals("MirrorLoom");
            boolean inside = kind.group(1).length() == 4
                    && (kind.group(3).equals("class") ? modifiers.equals("private static final") : modifiers.equals("private"));
            Due.same("rules 1 and 2: the class " + kind.group(4) + " is fine", outside || inside ? 1 : 0, 1);
        }
        Due.same("rule 11: too many classes", Math.max(count, MOST_CLASSES), MOST_CLASSES);
    }

    /** Rule 11: a method begins and ends with lines of the same indent. */
    private static void lengths(String source) {
        String[] lines = source.split("\n");
        int start = 0;
        for (int k = 0; k < lines.length; k++) {
            if (lines[k].isEmpty()) {
                start = k;
            } else if (lines[k].matches(" {4}(?: {4})?\\}") && k - start > MOST_LINES) {
                Due.fault("rule 11: a method is too long, up to line " + (k + 1));
            }
        }
    }

    /** Rule 5: what is static is final. */
    private static void statics(String code) {
        for (String line : code.split("\n")) {
            if (line.matches(" +(?:public |private )?static (?!final)[^({]*[;=].*")) {
                Due.fault("rule 5: " + line.trim());
            }
        }
    }

    private static List<String> bytecode(ToolProvider javap) {
        String directory = MirrorLoom.class.getProtectionDomain().getCodeSource().getLocation().getPath();
        List<String> arguments = new ArrayList<>(Arrays.asList("-c", "-p", "-cp", directory, "MirrorLoom"));
        for (Class<?> inside : MirrorLoom.class.getDeclaredClasses()) {
            arguments.add(inside.getName());
        }
        StringWriter shown = new StringWriter();
        PrintWriter out = new PrintWriter(shown);
        Due.same("javap", javap.run(out, out, arguments.toArray(new String[0])), 0);
        out.flush();
        return Arrays.asList(shown.toString().split("\n"));
    }

    /** Reads who calls whom; overloaded methods count as one. */
    private static void readCalls(List<String> lines) {
        String kind = "";
        String method = "";
        int fields = 0;
        for (String line : lines) {
            Matcher classLine = CLASS_LINE.matcher(line);
            Matcher methodLine = METHOD_LINE.matcher(line);
            Matcher call = CALL.matcher(line.substring(Math.max(line.indexOf("//"), 0)));
            if (classLine.matches()) {
                kind = classLine.group(1);
                fields = 0;
            } else if (methodLine.matches() && !line.startsWith("   ")) {
                method = kind + "." + (methodLine.group(1).equals(kind) ? "<init>" : methodLine.group(1));
                CALLS.put(method, new TreeSet<>());
                int parameters = methodLine.group(2).isEmpty() ? 0 : methodLine.group(2).split(",").length;
                Due.same("rule 11: too many parameters of " + method, Math.max(parameters, MOST_PARAMETERS), MOST_PARAMETERS);
            } else if (line.equals("  static {};")) {
                method = kind + ".<clinit>";
                CALLS.put(method, new TreeSet<>());
            } else if (FIELD_LINE.matcher(line).matches() && !line.contains(" static ")) {
                fields++;
                Due.same("rule 11: too many fields of " + kind, Math.max(fields, MOST_FIELDS), MOST_FIELDS);
            } else if (line.contains("// ") && call.matches()) {
                CALLS.get(method).add((call.group(1) == null ? kind : call.group(1)) + "." + call.group(2));
            }
        }
    }

    /** How many calls stand open at once below and with this one; far too many for a recursion. */
    private static int depth(String method, int open) {
        int deepest = 0;
        for (String called : CALLS.get(method)) {
            if (open <= 3 * DEEPEST && CALLS.containsKey(called)) {
                deepest = Math.max(deepest, depth(called, open + 1));
            }
        }
        return deepest + 1;
    }

    private static void calls() {
        Due.same("methods are found", CALLS.containsKey("MirrorLoom.digest") && CALLS.containsKey("MirrorLoom$Grid.at") ? 1 : 0, 1);
        for (String method : CALLS.keySet()) {
            int depth = depth(method, 1);
            Due.same("rules 8 and 11: too deep below " + method, Math.max(depth, DEEPEST), DEEPEST);
            for (String called : CALLS.get(method)) {
                if (!called.startsWith("MirrorLoom") && !LIBRARY.contains(called)) {
                    Due.fault("rule 4: " + method + " calls " + called);
                }
            }
        }
    }

    public static void main(String[] args) throws IOException {
        String source = Files.readString(SOURCE);
        String code = withoutCommentsAndTexts(source);
        words(code);
        classes(code);
        lengths(source);
        statics(code);
        // The project may count on java and javac alone, so the calls are looked at where javap comes with them.
        ToolProvider javap = ToolProvider.findFirst("javap").orElse(null);
        if (javap == null) {
            System.out.println("LanguageTest: there is no javap, so the calls are not looked at");
        } else {
            readCalls(bytecode(javap));
            calls();
        }
        Due.end("LanguageTest");
    }
}
