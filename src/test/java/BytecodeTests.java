import java.io.PrintWriter;
import java.io.StringWriter;
import java.util.ArrayList;
import java.util.List;
import java.util.Map;
import java.util.Set;
import java.util.TreeMap;
import java.util.TreeSet;
import java.util.regex.Matcher;
import java.util.regex.Pattern;
import java.util.spi.ToolProvider;

/** The rules of LANGUAGE.md that show in what javac makes of the program: what calls what, and which instructions. */
public final class BytecodeTests {
    private static final Checks C = new Checks();
    private static final Pattern METHOD = Pattern.compile("^  (?:.* )?([\\w$]+)\\((.*)\\);$");
    private static final Pattern CALL = Pattern.compile("invoke\\w+ .*// (?:Interface)?Method (.*)");
    private static final Set<String> LIBRARY = Set.of("java/lang/Object.\"<init>\":()V",
        "java/lang/Integer.bitCount:(I)I", "java/lang/Math.max:(II)I", "java/lang/Math.min:(II)I",
        "java/lang/String.charAt:(I)C", "java/lang/String.length:()I", "java/util/Arrays.fill:([III)V",
        "java/util/Arrays.fill:([II)V",
        "java/lang/System.arraycopy:(Ljava/lang/Object;ILjava/lang/Object;II)V");
    /** Of each method, as javap names it, what it calls. */
    private static final Map<String, Set<String>> CALLS = new TreeMap<>();

    public static void main(String[] args) {
        String code = disassembled();
        readCalls(code);
        C.test("rule 6: no instruction that throws, catches or locks", () -> instructions(code));
        C.test("rule 4: no call of another library", BytecodeTests::library);
        C.test("rules 8, 11: calls go at most eight deep and never round", BytecodeTests::depth);
        C.end();
    }

    private static String disassembled() {
        List<String> options = new ArrayList<>(List.of("-p", "-c", "-classpath", System.getProperty("java.class.path")));
        options.add("WindowHill");
        for (Class<?> c : WindowHill.class.getDeclaredClasses()) {
            options.add(c.getName());
        }
        StringWriter code = new StringWriter();
        PrintWriter out = new PrintWriter(code);
        ToolProvider.findFirst("javap").orElseThrow().run(out, out, options.toArray(new String[0]));
        return code.toString();
    }

    private static void readCalls(String code) {
        String owner = "";
        String method = "";
        for (String line : code.split("\n")) {
            Matcher made = METHOD.matcher(line);
            Matcher call = CALL.matcher(line);
            if (line.matches("\\S.*class .*\\{")) {
                owner = line.replaceAll(".*class (\\S+).*", "$1");
            } else if (made.matches()) {
                String name = made.group(1).equals(owner) ? "\"<init>\"" : made.group(1);
                method = owner + "." + name + " " + Pattern.compile("\\S+").matcher(made.group(2)).results().count();
                CALLS.put(method, new TreeSet<>());
            } else if (call.find()) {
                String called = call.group(1);
                CALLS.get(method).add(called.contains(".") ? called : owner + "." + called);
            }
        }
    }

    private static void instructions(String code) {
        C.due("methods", CALLS.size() > 200, true);
        for (String none : new String[] {"athrow", "Exception table", "monitorenter", "invokedynamic", "checkcast", "[fd]div"}) {
            C.due(none, Pattern.compile(none).matcher(code).find(), false);
        }
    }

    private static void library() {
        for (Set<String> called : CALLS.values()) {
            for (String one : called) {
                C.due(one, one.startsWith("WindowHill") || LIBRARY.contains(one), true);
            }
        }
    }

    private static void depth() {
        for (String method : CALLS.keySet()) {
            int deep = depthOf(method, 0);
            C.due(method + " is " + deep + " deep", deep <= 8, true);
        }
    }

    /** How many calls stand open at once from this one on, a library's own as one; 10 if they are more or go round. */
    private static int depthOf(String method, int above) {
        int most = 0;
        for (String called : CALLS.getOrDefault(method, Set.of())) {
            most = Math.max(most, above > 8 ? 0 : depthOf(asMade(called), above + 1));
        }
        return 1 + most;
    }

    /** A call as readCalls names the method that is called. */
    private static String asMade(String called) {
        String[] parts = called.split(":");
        String types = parts[1].replaceAll("^\\(|\\).*", "").replaceAll("\\[*(L[^;]*;|.)", "x");
        return parts[0] + " " + types.length();
    }
}
