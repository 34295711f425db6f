import java.io.IOException;
import java.io.UncheckedIOException;
import java.nio.file.Files;
import java.nio.file.Path;
import java.util.List;
import java.util.regex.Matcher;
import java.util.regex.Pattern;
import java.util.stream.Collectors;
import java.util.stream.Stream;

/** What README.md says of texts, calls and tests. It is run from the root of the project. */
public final class ReadmeTests {
    private static final Checks C = new Checks();
    private static final String README = read(Path.of("README.md"));

    public static void main(String[] args) {
        C.test("the first steps", ReadmeTests::firstSteps);
        C.test("the texts", ReadmeTests::texts);
        C.test("every call", ReadmeTests::calls);
        C.test("every test", ReadmeTests::tests);
        C.end();
    }

    private static String read(Path file) {
        try {
            return Files.readString(file);
        } catch (IOException e) {
            throw new UncheckedIOException(e);
        }
    }

    /** The blocks of one kind, in their order. */
    private static List<String> blocks(String kind) {
        return Pattern.compile("(?s)```" + kind + "\n(.*?)```").matcher(README).results().map(r -> r.group(1))
            .collect(Collectors.toList());
    }

    private static void firstSteps() {
        String code = blocks("java").get(0);
        Matcher text = Pattern.compile("// \"(.*)\"").matcher(code);
        Matcher feed = Pattern.compile("feed\\((.*)\\)").matcher(code);
        C.due("a text and a feed", text.find() && feed.find(), true);
        int[] words = Stream.of(feed.group(1).split(", ")).mapToInt(Integer::decode).toArray();
        WindowHill h = new WindowHill();
        C.due("feed", h.feed(words[0], words[1], words[2], words[3], words[4]), text.group(1).length());
        for (int at = 0; at < 20; at++) {
            C.due("byte " + at, words[at / 4] >> 24 - at % 4 * 8 & 255, text.group(1).charAt(at));
        }
        C.due("town", h.town(20), 1);
        C.due("no FAULT", h.fault(0), 0);
        C.due("turn", h.turn(0, 0), 1);
        C.due("picture", h.picture(), 1);
        C.due("night", h.night(1), 0);
    }

    private static void texts() {
        List<String> texts = blocks("text");
        C.due("texts", texts.size(), 2);
        WindowHill h = Checks.hill(texts.get(0), texts.get(1));
        C.due("WIDE", h.told(0), 5);
        C.due("houses", h.told(2), 9);
        C.due("RULES", h.told(5), 2);
        C.due("CITIZENS", h.told(6), 1);
        C.due("a RING", h.told(9), 1);
        C.due("the YEAR", h.live(1) > 0, true);
    }

    private static void calls() {
        for (String call : Caller.CALLS) {
            String[] parts = call.split(" ");
            int numbers = parts.length > 1 ? parts[1].length() : 0;
            String list = numbers == 0 ? "" : "\\w+" + ", \\w+".repeat(numbers - 1);
            C.due(call, Pattern.compile("`" + parts[0] + "\\(" + list + "\\)`").matcher(README).find(), true);
        }
    }

    private static void tests() {
        try (Stream<Path> files = Files.list(Path.of("src/test/java"))) {
            for (Path file : files.collect(Collectors.toList())) {
                String name = file.getFileName().toString().replace(".java", "");
                C.due(name, README.contains("`" + name + "`"), true);
            }
        } catch (IOException e) {
            throw new UncheckedIOException(e);
        }
    }
}
