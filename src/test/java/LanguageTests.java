import java.io.IOException;
import java.io.UncheckedIOException;
import java.lang.reflect.Constructor;
import java.lang.reflect.Field;
import java.lang.reflect.Method;
import java.lang.reflect.Modifier;
import java.nio.file.Files;
import java.nio.file.Path;
import java.util.ArrayList;
import java.util.List;
import java.util.Set;
import java.util.TreeSet;
import java.util.regex.Matcher;
import java.util.regex.Pattern;

/** The rules of LANGUAGE.md that a test can look at. It is run from the root of the project. */
public final class LanguageTests {
    private static final Checks C = new Checks();
    private static final Path FILE = Path.of("src/main/java/WindowHill.java");
    private static final String FACE = "int status() long top() long bottom() boolean tray(int,int,int)"
        + " boolean write(int,int,long) long read(int,int) boolean pour(int,int,int,int,int)"
        + " int feed(int,int,int,int,int) int town(int) int year(int) int fault(int) int told(int) long picture()"
        + " int lamp(int,int,int) int rule(int,int) int citizen(int,int) int turn(int,int) int paint(long)"
        + " int paintRows(int) int copyRows(int) boolean mayor(int) boolean bend(int,int,int) int night(int)"
        + " long ahead(int) int again(int) long far(int) int walks(int) int still() int next(int) int oil(int)"
        + " int brightest(int) long ancestors() long ancestor() long stills() long firstStill() long pictures()"
        + " int signal(int,int,int,int) int spoils(int,int,int) int worst(int,int) int mend(long,int)"
        + " int unlike(long) int seen(int,int) int rulesLeft() int fits() int forget() int shows() int vote(int)"
        + " int votes(int) int elect() int reads(int,int) int mirror() int heaps(int) int heap(int,int)"
        + " boolean company() int live(int) int lived(int) boolean mean(int,int) int mark() int back()";

    public static void main(String[] args) {
        C.test("rule 1: the face", LanguageTests::face);
        C.test("rule 1: all else is private", LanguageTests::restIsPrivate);
        C.test("rules 4, 6: words and imports", LanguageTests::words);
        C.test("rule 5: static fields", LanguageTests::staticFields);
        C.test("rule 11: sizes", LanguageTests::sizes);
        C.test("rule 12: what is made", LanguageTests::made);
        C.end();
    }

    private static List<Class<?>> classes() {
        List<Class<?>> all = new ArrayList<>(List.of(WindowHill.class));
        all.addAll(List.of(WindowHill.class.getDeclaredClasses()));
        return all;
    }

    private static String told(Method m) {
        StringBuilder types = new StringBuilder();
        for (Class<?> type : m.getParameterTypes()) {
            types.append(types.length() > 0 ? "," : "").append(type.getName());
        }
        return m.getReturnType().getName() + " " + m.getName() + "(" + types + ")";
    }

    private static void face() {
        Set<String> want = new TreeSet<>(List.of(FACE.split("(?<=\\)) ")));
        Set<String> got = new TreeSet<>();
        for (Method m : WindowHill.class.getDeclaredMethods()) {
            if (Modifier.isPublic(m.getModifiers())) {
                got.add(told(m));
            }
        }
        C.due("calls", want.size(), 59);
        C.due("the face: " + got, want.equals(got), true);
        C.due("final", Modifier.isFinal(WindowHill.class.getModifiers()), true);
        C.due("constructors", WindowHill.class.getConstructors().length, 1);
        C.due("public fields", WindowHill.class.getFields().length, 1);
    }

    private static void restIsPrivate() {
        Set<String> names = new TreeSet<>();
        for (Method m : WindowHill.class.getMethods()) {
            names.add(m.getName());
        }
        for (Class<?> c : classes()) {
            for (Method m : c.getDeclaredMethods()) {
                if (m.isSynthetic() || c == WindowHill.class && Modifier.isPublic(m.getModifiers())) {
                    continue;
                }
                C.due(c.getName() + "." + m.getName() + " is private", Modifier.isPrivate(m.getModifiers()), true);
                C.due(m.getName() + " is a public name, too", names.contains(m.getName()), false);
            }
            for (Field f : c.getDeclaredFields()) {
                boolean open = f.getName().equals("NONE");
                C.due(c.getName() + "." + f.getName(), Modifier.isPrivate(f.getModifiers()), !open);
            }
            for (Constructor<?> k : c.getDeclaredConstructors()) {
                boolean open = c == WindowHill.class;
                C.due(c.getName() + "'s constructor", !open && Modifier.isPublic(k.getModifiers()), false);
            }
            boolean nested = Modifier.isStatic(c.getModifiers()) && Modifier.isPrivate(c.getModifiers());
            C.due(c.getName(), c == WindowHill.class || nested, true);
        }
    }

    private static String source() {
        try {
            return Files.readString(FILE);
        } catch (IOException e) {
            throw new UncheckedIOException(e);
        }
    }

    /** The program without its comments and texts. */
    private static String code() {
        return source().replaceAll("(?s)/\\*.*?\\*/", "").replaceAll("//[^\n]*", "")
            .replaceAll("\"[^\"\n]*\"", "TEXT").replaceAll("'[^'\n]*'", "SIGN");
    }

    private static void words() {
        String code = code();
        String[] none = {"throw", "throws", "try", "catch", "finally", "synchronized", "assert", "instanceof", "package",
            "->", "::", "System.out", "System.nano", "System.current", "Random", "Thread", "TEXT +", "+ TEXT", "var ",
            "String.format", "Exact(", "hashCode", "toString", "@", "double", "float", "record ", "interface "};
        for (String word : none) {
            boolean isWord = word.matches("\\w+");
            String asked = isWord ? "\\b" + word + "\\b" : Pattern.quote(word);
            C.due("'" + word + "'", Pattern.compile(asked).matcher(code).find(), false);
        }
        Matcher imports = Pattern.compile("import ([^;]*);").matcher(code);
        while (imports.find()) {
            C.due("import " + imports.group(1), imports.group(1).equals("java.util.Arrays"), true);
        }
        for (char sign : source().toCharArray()) {
            C.due("sign " + (int) sign, sign < 127, true);
        }
        Matcher library = Pattern.compile("\\b(Integer|Long|Math|System|Arrays|String)\\.(\\w+)").matcher(code);
        Set<String> may = Set.of("bitCount", "min", "max", "abs", "compare", "floorDiv", "floorMod", "arraycopy", "fill");
        while (library.find()) {
            C.due(library.group(), may.contains(library.group(2)), true);
        }
    }

    private static void staticFields() {
        for (Class<?> c : classes()) {
            for (Field f : c.getDeclaredFields()) {
                if (Modifier.isStatic(f.getModifiers())) {
                    C.due(f.getName() + " is final", Modifier.isFinal(f.getModifiers()), true);
                    C.due(f.getName() + "'s type", Set.of("int", "long", "boolean", "char", "java.lang.String")
                        .contains(f.getType().getName()), true);
                }
            }
        }
    }

    private static void sizes() {
        C.due("classes " + classes().size(), classes().size() <= 12, true);
        for (Class<?> c : classes()) {
            int fields = 0;
            for (Field f : c.getDeclaredFields()) {
                fields += Modifier.isStatic(f.getModifiers()) ? 0 : 1;
            }
            C.due(c.getName() + " has fields " + fields, fields <= 20, true);
            for (Method m : c.getDeclaredMethods()) {
                C.due(m.getName() + " takes " + m.getParameterCount(), m.getParameterCount() <= 7, true);
            }
        }
        int begun = 0;
        String[] lines = source().split("\n");
        for (int k = 0; k < lines.length; k++) {
            if (lines[k].matches(" {4,8}(public|private).*\\) \\{")) {
                begun = k;
            } else if (lines[k].matches(" {4,8}\\}")) {
                C.due("lines from " + (begun + 1), k - begun <= 60 || lines[k].startsWith("    }"), true);
            }
        }
    }

    /** Rows and objects are made with a WindowHill and used again; no call makes one. */
    private static void made() {
        for (String line : code().split("\n")) {
            if (line.matches(".*\\bnew\\b.*")) {
                C.due(line.trim(), line.matches(" +private (final )?\\w+(\\[\\])? \\w+ = (\\{)?new .*"), true);
            }
            C.due(line.trim() + " copies", line.matches(".*\\b(clone|copyOf|copyOfRange|substring|toCharArray)\\(.*"), false);
        }
    }
}
