import java.util.ArrayList;
import java.util.List;
import java.util.Random;

/** Draws texts of TOWNS and YEARS, right ones and spoilt ones. */
final class Texts {
    private static final String[] SPOILERS = {"wide", "ring", "row", "rule", "born", "stays", "citizen", "likes", "to",
        "night", "turn", "mayor", "elect", "storm", "birth", "when", "lit", "lamp", "same", "loop", "end", "stop", ";",
        "<", ">", "=", "0", "1", "2", "3", "4", "5", "6", "7", "16", "17", "30", "31", "99", "100", "0004", "9999",
        "12345", "00001", "d", "dl", "ddd", "lnwxd", "dddddd", "a", "b", "abcdefgh", "abcdefghi", "A", "-", "\0",
        "\u00e9", "\t", "ddl", "nnn", "widex", "towns"};
    private static final String[] NAMES = {"a", "b", "c", "dd", "ln", "wx", "life", "anne", "bert", "longname", "z",
        "rows", "ends", "y", "zz", "q"};
    private final Random random;
    /** Of the latest town: for its years. */
    int wide = 1;
    int rows = 1;
    List<String> rules = new ArrayList<>();

    Texts(Random random) {
        this.random = random;
    }

    private int from(int least, int most) {
        return least + random.nextInt(most - least + 1);
    }

    private String one(String... of) {
        return of[random.nextInt(of.length)];
    }

    List<String> town(boolean small) {
        wide = small ? from(1, 4) : from(1, 5);
        rows = small ? from(1, 3) : random.nextInt(20) == 0 ? 7 : from(1, 6);
        List<String> t = new ArrayList<>(List.of("wide", "" + wide));
        if (random.nextInt(3) == 0) {
            t.add("ring");
        }
        t.add(";");
        String letters = one("d", "dl", "dl", "dlx", "dln", "dlnwx", "dddllnwx", "ddddl", "nwx", "l");
        for (int y = 0; y < rows; y++) {
            StringBuilder row = new StringBuilder();
            for (int x = 0; x < wide; x++) {
                row.append(letters.charAt(random.nextInt(letters.length())));
            }
            t.addAll(List.of("row", row.toString(), ";"));
        }
        List<String> names = new ArrayList<>(List.of(NAMES));
        rules = new ArrayList<>();
        int citizens = 0;
        int parts = random.nextInt(20) == 0 ? 12 : random.nextInt(9);
        int tooMany = random.nextInt(10) == 0 ? 1 : 0;
        for (int k = 0; k < parts; k++) {
            String name = names.remove(random.nextInt(names.size()));
            if (rules.size() < 4 + tooMany && random.nextBoolean()) {
                rules.add(name);
                t.addAll(List.of("rule", name));
                addSet(t, "born");
                addSet(t, "stays");
                t.add(";");
            } else if (citizens < 6 + tooMany) {
                citizens++;
                int least = from(0, wide * rows);
                t.addAll(List.of("citizen", name, "likes", "" + least, "to", "" + from(least, wide * rows), ";"));
            }
        }
        return t;
    }

    private void addSet(List<String> t, String word) {
        if (random.nextInt(5) > 0) {
            t.add(word);
            List<Integer> left = new ArrayList<>(List.of(0, 1, 2, 3, 4));
            int many = from(1, 4);
            for (int k = 0; k < many; k++) {
                t.add("" + left.remove(random.nextInt(left.size())));
            }
        }
    }

    List<String> year() {
        List<String> t = new ArrayList<>();
        addSteps(t, 0, new int[] {random.nextInt(10) == 0 ? from(28, 32) : random.nextInt(14)});
        return t;
    }

    private void addSteps(List<String> t, int depth, int[] left) {
        int many = depth == 0 ? 40 : random.nextInt(4);
        while (many-- > 0 && left[0] > 0) {
            left[0]--;
            addStep(t, depth, left);
        }
    }

    private void addStep(List<String> t, int depth, int[] left) {
        switch (random.nextInt(depth < 3 || random.nextInt(20) == 0 ? 14 : 10)) {
            case 0: case 1: t.addAll(List.of("night", "" + from(1, random.nextInt(8) == 0 ? 99 : 3))); break;
            case 2: case 3: t.addAll(List.of("turn", "" + from(0, wide - 1), "" + from(0, rows - 1))); break;
            case 4: t.add("elect"); break;
            case 5: case 6: t.addAll(List.of("storm", "" + from(0, 16))); break;
            case 7: t.add("birth"); break;
            case 8: t.add(random.nextInt(4) == 0 ? "stop" : "birth"); break;
            case 9:
                if (rules.isEmpty()) {
                    t.add("elect");
                } else {
                    t.addAll(List.of("mayor", rules.get(random.nextInt(rules.size()))));
                }
                break;
            case 10: case 11:
                t.addAll(List.of("loop", "" + from(1, random.nextInt(4) == 0 ? 99 : 6), ";"));
                addSteps(t, depth + 1, left);
                t.add("end");
                break;
            default:
                t.add("when");
                addTest(t);
                t.add(";");
                addSteps(t, depth + 1, left);
                t.add("end");
        }
        t.add(";");
    }

    private void addTest(List<String> t) {
        switch (random.nextInt(4)) {
            case 0: t.add("same"); break;
            case 1: t.addAll(List.of("lamp", "" + from(0, wide - 1), "" + from(0, rows - 1))); break;
            default: t.addAll(List.of("lit", one("<", ">", "="), "" + from(0, wide * rows)));
        }
    }

    /** A TOKEN of a text is left out, put in, put in place of another one, or told twice. */
    void spoil(List<String> t) {
        int at = t.isEmpty() ? 0 : random.nextInt(t.size());
        switch (t.isEmpty() ? 0 : random.nextInt(5)) {
            case 0: t.add(at, one(SPOILERS)); break;
            case 1: t.remove(at); break;
            case 2: t.set(at, one(SPOILERS)); break;
            case 3: t.add(at, t.get(random.nextInt(t.size()))); break;
            default: t.subList(at, t.size()).clear();
        }
    }

    /** The text with blanks wherever they must stand and perhaps elsewhere. */
    String join(List<String> t) {
        StringBuilder text = new StringBuilder();
        boolean wordBefore = false;
        for (String token : t) {
            boolean sign = token.length() == 1 && ";<>=".contains(token);
            if (wordBefore && !sign || random.nextInt(6) == 0) {
                text.append(random.nextInt(8) == 0 ? "\n" : random.nextInt(20) == 0 ? "  " : " ");
            }
            text.append(token);
            wordBefore = !sign;
        }
        return text.toString();
    }
}
