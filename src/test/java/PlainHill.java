import java.math.BigInteger;
import java.util.ArrayList;
import java.util.Arrays;
import java.util.HashMap;
import java.util.HashSet;
import java.util.List;
import java.util.Map;
import java.util.Set;
import java.util.TreeMap;

/**
 * The document once more, in the plainest form: lists and single lamps, exceptions for STATUS, every
 * question asked of all pictures there are. It is slow, and shares nothing with WindowHill.
 */
final class PlainHill {
    private static final Set<String> KEPT = Set.of("wide", "ring", "row", "rule", "born", "stays", "citizen",
        "likes", "to", "night", "turn", "mayor", "elect", "storm", "birth", "when", "lit", "lamp", "same",
        "loop", "end", "stop");

    /** Thrown for every STATUS but 0. */
    private static final class Refused extends RuntimeException {
        private static final long serialVersionUID = 1;

        final int status;

        Refused(int status) {
            super(null, null, false, false);
            this.status = status;
        }
    }

    /** Thrown for a FAULT. */
    private static final class Fault extends RuntimeException {
        private static final long serialVersionUID = 1;

        final int kind;
        final int place;

        Fault(int kind, int place) {
            super(null, null, false, false);
            this.kind = kind;
            this.place = place;
        }
    }

    private record Token(String text, int place, boolean bad) {
        boolean is(String other) {
            return !bad && text.equals(other);
        }

        boolean isNumber() {
            return !bad && !text.isEmpty() && Character.isDigit(text.charAt(0));
        }

        boolean isWord() {
            return !bad && !text.isEmpty() && Character.isLetter(text.charAt(0));
        }
    }

    private record Step(String word, String test, int first, int second, List<Step> body) { }

    private static final class Rule {
        String name;
        Set<Integer> born = new HashSet<>();
        Set<Integer> stays = new HashSet<>();

        Rule copy() {
            Rule r = new Rule();
            r.name = name;
            r.born.addAll(born);
            r.stays.addAll(stays);
            return r;
        }
    }

    private record Citizen(String name, int least, int most) { }

    /** Everything that a MARK keeps. */
    private static final class State {
        int wide;
        int rows;
        boolean ring;
        String letters = "";
        boolean[] lit;
        List<Rule> rules = new ArrayList<>();
        List<Citizen> citizens = new ArrayList<>();
        int mayor = -1;
        int nights;
        int oil;
        Map<String, Set<Integer>> seen = new TreeMap<>();
        List<Step> year;

        State copy() {
            State s = new State();
            s.wide = wide;
            s.rows = rows;
            s.ring = ring;
            s.letters = letters;
            s.lit = lit.clone();
            for (Rule r : rules) {
                s.rules.add(r.copy());
            }
            s.citizens.addAll(citizens);
            s.mayor = mayor;
            s.nights = nights;
            s.oil = oil;
            for (Map.Entry<String, Set<Integer>> e : seen.entrySet()) {
                s.seen.put(e.getKey(), new HashSet<>(e.getValue()));
            }
            s.year = year;
            return s;
        }
    }

    private State s = new State();
    private final List<State> marks = new ArrayList<>();
    private final long[][] trays = new long[4][];
    private final int[] sorts = new int[4];
    private final ArrayList<Integer> tape = new ArrayList<>();
    private int[] lastFault;
    private int[] lastLived;
    int status;
    long top = 0;
    long bottom = 1;

    PlainHill() {
        s.wide = 1;
        s.rows = 1;
        s.letters = "d";
        s.lit = new boolean[1];
    }

    // ---- the way in: every call by its name

    long call(String name, long... a) {
        int[] i = new int[5];
        for (int k = 0; k < a.length && k < 5; k++) {
            i[k] = (int) a[k];
        }
        switch (name) {
            case "status": return status;
            case "top": return top;
            case "bottom": return bottom;
            case "feed": return feed(i);
            case "fault": return lastFault == null || i[0] < 0 || i[0] > 1 ? -1 : lastFault[i[0]];
            default:
        }
        try {
            long v = answer(name, i, a);
            status = 0;
            return v;
        } catch (Refused r) {
            status = r.status;
            return Set.of("tray", "write", "pour", "mayor", "bend", "company", "mean").contains(name) ? 0 : -1;
        }
    }

    private static void check(boolean fine, int otherwise) {
        if (!fine) {
            throw new Refused(otherwise);
        }
    }

    private static void in(long v, long least, long most) {
        check(v >= least && v <= most, 1);
    }

    private long answer(String name, int[] i, long[] a) {
        switch (name) {
            case "tray": return tray(i[0], i[1], i[2]);
            case "write": return write(i[0], i[1], a[2]);
            case "read": inTray(i[0], i[1]); return trays[i[0]][i[1]];
            case "pour": return pour(i[0], i[1], i[2], i[3], i[4]);
            case "town": return town(i[0]);
            case "year": return year(i[0]);
            case "told": return told(i[0]);
            case "picture": return number(s.lit);
            case "lamp": return lamp(i[0], i[1], i[2]);
            case "rule": in(i[0], 0, s.rules.size() - 1); in(i[1], 0, 1);
                return bits(i[1] == 0 ? s.rules.get(i[0]).born : s.rules.get(i[0]).stays);
            case "citizen": in(i[0], 0, s.citizens.size() - 1); in(i[1], 0, 1);
                return i[1] == 0 ? s.citizens.get(i[0]).least : s.citizens.get(i[0]).most;
            case "turn": int t = freePlace(i[0], i[1]); s.lit[t] = !s.lit[t]; return s.lit[t] ? 1 : 0;
            case "paint": in(a[0], 0, 1073741823L); return paint(a[0]);
            case "paintRows": return paintRows(i[0]);
            case "copyRows": rowsTray(i[0]);
                for (int y = 0; y < s.rows; y++) {
                    trays[i[0]][y] = readRow(y);
                }
                return s.rows;
            case "mayor": in(i[0], 0, s.rules.size() - 1); s.mayor = i[0]; return 1;
            case "bend": in(i[0], 0, s.rules.size() - 1); in(i[1], 0, 31); in(i[2], 0, 31);
                s.rules.get(i[0]).born = unbits(i[1]);
                s.rules.get(i[0]).stays = unbits(i[2]);
                return 1;
            case "night": in(i[0], 1, 999);
                for (int n = 0; n < i[0]; n++) {
                    passNight(s);
                }
                return count(s.lit);
            default: return answerMore(name, i, a);
        }
    }

    private long answerMore(String name, int[] i, long[] a) {
        switch (name) {
            case "ahead": in(i[0], 0, 999); return number(after(s, s.lit, i[0]));
            case "again": in(i[0], 0, 1); return round()[i[0]];
            case "far": in(i[0], 0, 999999999); return far(i[0]);
            case "walks": in(i[0], 0, 2); return walks()[i[0]];
            case "still": return isStill(s) ? 1 : 0;
            case "next": in(i[0], 0, 2); return next(i[0]);
            case "oil": in(i[0], 0, 9999); return oil(i[0]);
            case "brightest": in(i[0], 0, 999); return brightest(i[0]);
            case "ancestors": return becoming(false).size();
            case "ancestor": return leastOf(becoming(false));
            case "stills": return becoming(true).size();
            case "firstStill": return leastOf(becoming(true));
            case "pictures": return 1L << frees().size();
            case "signal": return signal(i[0], i[1], i[2], i[3]);
            case "spoils": in(i[0], 0, s.wide - 1); in(i[1], 0, s.rows - 1); in(i[2], 0, 30);
                return spoilt(freePlace(i[0], i[1]), i[2]);
            case "worst": return worst(i[0], i[1]);
            case "mend": in(a[0], 0, 1073741823L); in(i[1], 0, 1); return mend(a[0], i[1]);
            case "unlike": in(a[0], 0, 1073741823L); return unlike(s.lit, a[0]);
            case "seen": in(i[0], 0, 1); in(i[1], 0, 4); return seenOf(i[0], i[1]);
            case "rulesLeft": return rulesLeft();
            case "fits": return fits();
            case "forget": int many = s.seen.size(); s.seen.clear(); return many;
            case "shows": return shows();
            case "vote": in(i[0], 0, s.citizens.size() - 1); check(!s.rules.isEmpty(), 6);
                return vote(s, s.citizens.get(i[0]));
            case "votes": in(i[0], 0, s.rules.size() - 1); return votes(s, i[0]);
            case "elect": check(elect(s), 6); return s.mayor;
            case "reads": return reads(i[0], i[1]);
            case "mirror": return mirror();
            case "heaps": in(i[0], 0, 1); return heaps(i[0]);
            case "heap": return heap(i[0], i[1]);
            case "company": return company();
            case "live": return live(i[0]);
            case "lived": in(i[0], 0, 4); check(lastLived != null, 6); return lastLived[i[0]];
            case "mean": return mean(i[0], i[1]);
            case "mark": check(marks.size() < 3, 4); marks.add(s.copy()); return marks.size();
            case "back": check(!marks.isEmpty(), 6); s = marks.remove(marks.size() - 1); return marks.size();
            default: throw new IllegalStateException(name);
        }
    }

    // ---- trays

    private long tray(int tray, int sort, int many) {
        in(tray, 0, 3);
        in(sort, 0, 3);
        in(many, 0, 60);
        trays[tray] = new long[many];
        sorts[tray] = sort;
        return 1;
    }

    private void inTray(int tray, int place) {
        in(tray, 0, 3);
        check(trays[tray] != null, 2);
        check(place >= 0 && place < trays[tray].length, 3);
    }

    private long write(int tray, int place, long v) {
        inTray(tray, place);
        int width = 8 << sorts[tray];
        BigInteger whole = BigInteger.ONE.shiftLeft(width);
        BigInteger cut = BigInteger.valueOf(v).mod(whole);
        if (cut.testBit(width - 1)) {
            cut = cut.subtract(whole);
        }
        trays[tray][place] = cut.longValue();
        return 1;
    }

    private long pour(int from, int place, int to, int at, int many) {
        in(from, 0, 3);
        in(to, 0, 3);
        check(place >= 0 && at >= 0 && many >= 0, 1);
        check(trays[from] != null && trays[to] != null, 2);
        check(sorts[from] == sorts[to], 8);
        check((long) place + many <= trays[from].length && (long) at + many <= trays[to].length, 3);
        long[] were = trays[from].clone();
        for (int k = 0; k < many; k++) {
            trays[to][at + k] = were[place + k];
        }
        return 1;
    }

    private void rowsTray(int tray) {
        in(tray, 0, 3);
        check(trays[tray] != null, 2);
        check(trays[tray].length >= s.rows, 3);
    }

    // ---- texts

    private long feed(int[] words) {
        if (tape.size() + 20 > 900) {
            return -1;
        }
        for (int w : words) {
            for (int k = 3; k >= 0; k--) {
                tape.add(w >>> 8 * k & 255);
            }
        }
        return tape.size();
    }

    private static List<Token> tokens(String text) {
        List<Token> all = new ArrayList<>();
        int at = 0;
        while (at < text.length()) {
            char c = text.charAt(at);
            int end = at + 1;
            if (c == ' ' || c == 10) {
                at++;
                continue;
            }
            if (c >= 'a' && c <= 'z') {
                while (end < text.length() && text.charAt(end) >= 'a' && text.charAt(end) <= 'z') {
                    end++;
                }
                all.add(new Token(text.substring(at, end), at, false));
            } else if (c >= '0' && c <= '9') {
                while (end < text.length() && text.charAt(end) >= '0' && text.charAt(end) <= '9') {
                    end++;
                }
                all.add(new Token(text.substring(at, end), at, end - at > 4));
            } else {
                all.add(new Token(text.substring(at, end), at, ";<>=".indexOf(c) < 0));
            }
            at = end;
        }
        all.add(new Token("", text.length(), false));
        return all;
    }

    /** A reader of TOKENS that throws a Fault. */
    private static final class Reader {
        final List<Token> tokens;
        int at;

        Reader(String text) {
            tokens = tokens(text);
        }

        Token here() {
            return tokens.get(at);
        }

        Fault fault(int kind) {
            return new Fault(here().bad ? 1 : kind, here().place);
        }

        boolean ends() {
            return at == tokens.size() - 1;
        }

        void take(String what) {
            if (!here().is(what)) {
                throw fault(2);
            }
            at++;
        }

        int number(int least, int most) {
            if (!here().isNumber()) {
                throw fault(2);
            }
            int v = Integer.parseInt(here().text);
            if (v < least || v > most) {
                throw fault(4);
            }
            at++;
            return v;
        }

        String name() {
            if (!here().isWord() || KEPT.contains(here().text) || here().text.length() > 8) {
                throw fault(2);
            }
            return here().text;
        }
    }

    private String takeText(int n) {
        StringBuilder text = new StringBuilder();
        for (int k = 0; k < n; k++) {
            text.append((char) (int) tape.get(k));
        }
        tape.clear();
        return text.toString();
    }

    private long town(int n) {
        check(n >= 0 && n <= tape.size(), 1);
        try {
            s = readTown(new Reader(takeText(n)));
            lastFault = new int[] {0, -1};
        } catch (Fault f) {
            lastFault = new int[] {f.kind, f.place};
            throw new Refused(9);
        }
        return told(2);
    }

    private static State readTown(Reader r) {
        State t = new State();
        r.take("wide");
        t.wide = r.number(1, 5);
        if (r.here().is("ring")) {
            t.ring = true;
            r.at++;
        }
        r.take(";");
        while (r.here().is("row")) {
            if (t.rows == 6) {
                throw r.fault(6);
            }
            r.at++;
            if (!r.here().isWord() || !r.here().text.matches("[dlnwx]{" + t.wide + "}")) {
                throw r.fault(2);
            }
            t.letters += r.here().text;
            t.rows++;
            r.at++;
            r.take(";");
        }
        if (t.rows == 0) {
            throw r.fault(2);
        }
        Set<String> names = new HashSet<>();
        while (!r.ends()) {
            if (r.here().is("rule")) {
                readRule(r, t, names);
            } else if (r.here().is("citizen")) {
                readCitizen(r, t, names);
            } else {
                throw r.fault(2);
            }
        }
        t.mayor = t.rules.isEmpty() ? -1 : 0;
        t.lit = new boolean[t.letters.length()];
        for (int p = 0; p < t.lit.length; p++) {
            t.lit[p] = "lw".indexOf(t.letters.charAt(p)) >= 0;
        }
        return t;
    }

    private static String readNewName(Reader r, Set<String> names) {
        String name = r.name();
        if (!names.add(name)) {
            throw r.fault(3);
        }
        r.at++;
        return name;
    }

    private static void readRule(Reader r, State t, Set<String> names) {
        if (t.rules.size() == 4) {
            throw r.fault(6);
        }
        r.at++;
        Rule rule = new Rule();
        rule.name = readNewName(r, names);
        readSet(r, "born", rule.born);
        readSet(r, "stays", rule.stays);
        r.take(";");
        t.rules.add(rule);
    }

    private static void readSet(Reader r, String word, Set<Integer> set) {
        if (!r.here().is(word)) {
            return;
        }
        r.at++;
        do {
            int v = r.number(0, 4);
            if (!set.add(v)) {
                r.at--;
                throw r.fault(5);
            }
        } while (r.here().isNumber());
    }

    private static void readCitizen(Reader r, State t, Set<String> names) {
        if (t.citizens.size() == 6) {
            throw r.fault(6);
        }
        r.at++;
        String name = readNewName(r, names);
        r.take("likes");
        int least = r.number(0, 30);
        r.take("to");
        int most = r.number(least, 30);
        r.take(";");
        t.citizens.add(new Citizen(name, least, most));
    }

    private long year(int n) {
        check(n >= 0 && n <= tape.size() && n <= 300, 1);
        int[] many = new int[1];
        try {
            Reader r = new Reader(takeText(n));
            List<Step> steps = readSteps(r, 0, many);
            if (!r.ends()) {
                throw r.fault(2);
            }
            s.year = steps;
            lastFault = new int[] {0, -1};
        } catch (Fault f) {
            lastFault = new int[] {f.kind, f.place};
            throw new Refused(9);
        }
        return many[0];
    }

    private List<Step> readSteps(Reader r, int depth, int[] many) {
        List<Step> steps = new ArrayList<>();
        while (!r.ends() && !r.here().is("end")) {
            steps.add(readStep(r, depth, many));
        }
        return steps;
    }

    private Step readStep(Reader r, int depth, int[] many) {
        String word = r.here().text;
        if (r.here().bad || !Set.of("night", "turn", "mayor", "elect", "storm", "birth", "when", "loop", "stop")
            .contains(word)) {
            throw r.fault(2);
        }
        if (many[0] == 30) {
            throw r.fault(6);
        }
        boolean block = word.equals("when") || word.equals("loop");
        if (block && depth == 3) {
            throw r.fault(7);
        }
        many[0]++;
        r.at++;
        String test = "";
        int first = 0;
        int second = 0;
        switch (word) {
            case "night": case "loop": first = r.number(1, 99); break;
            case "storm": first = r.number(0, 16); break;
            case "turn": first = r.number(0, s.wide - 1); second = r.number(0, s.rows - 1); break;
            case "mayor": first = ruleNamed(r); break;
            case "when":
                test = r.here().text;
                if (r.here().is("same")) {
                    r.at++;
                } else if (r.here().is("lamp")) {
                    r.at++;
                    first = r.number(0, s.wide - 1);
                    second = r.number(0, s.rows - 1);
                } else {
                    r.take("lit");
                    test = r.here().text;
                    if (!Set.of("<", ">", "=").contains(test)) {
                        throw r.fault(2);
                    }
                    r.at++;
                    first = r.number(0, 30);
                }
                break;
            default:
        }
        r.take(";");
        List<Step> body = null;
        if (block) {
            body = readSteps(r, depth + 1, many);
            r.take("end");
            r.take(";");
        }
        return new Step(word, test, first, second, body);
    }

    private int ruleNamed(Reader r) {
        String name = r.name();
        for (int k = 0; k < s.rules.size(); k++) {
            if (s.rules.get(k).name.equals(name)) {
                r.at++;
                return k;
            }
        }
        throw r.fault(3);
    }

    // ---- the town

    private boolean isHouse(int p) {
        return s.letters.charAt(p) != 'n';
    }

    private static boolean isFree(State t, int p) {
        return t.letters.charAt(p) == 'd' || t.letters.charAt(p) == 'l';
    }

    private List<Integer> frees() {
        List<Integer> all = new ArrayList<>();
        for (int p = 0; p < s.lit.length; p++) {
            if (isFree(s, p)) {
                all.add(p);
            }
        }
        return all;
    }

    private static List<Integer> neighbours(State t, int p) {
        int x = p % t.wide;
        int y = p / t.wide;
        List<Integer> all = new ArrayList<>();
        int[][] ways = {{x - 1, y}, {x + 1, y}, {x, y - 1}, {x, y + 1}};
        for (int[] w : ways) {
            int nx = w[0];
            if (t.ring && t.wide >= 3) {
                nx = Math.floorMod(nx, t.wide);
            }
            if (nx >= 0 && nx < t.wide && w[1] >= 0 && w[1] < t.rows) {
                int q = w[1] * t.wide + nx;
                if (t.letters.charAt(q) != 'n') {
                    all.add(q);
                }
            }
        }
        return all;
    }

    private static int litAround(State t, boolean[] lit, int p) {
        int many = 0;
        for (int q : neighbours(t, p)) {
            many += lit[q] ? 1 : 0;
        }
        return many;
    }

    private static boolean[] stepBy(State t, boolean[] lit, Rule rule) {
        boolean[] then = new boolean[lit.length];
        for (int p = 0; p < lit.length; p++) {
            switch (t.letters.charAt(p)) {
                case 'w': then[p] = true; break;
                case 'd': case 'l':
                    if (rule != null) {
                        then[p] = (lit[p] ? rule.stays : rule.born).contains(litAround(t, lit, p));
                    }
                    break;
                default:
            }
        }
        return then;
    }

    private static boolean[] step(State t, boolean[] lit) {
        return stepBy(t, lit, t.mayor < 0 ? null : t.rules.get(t.mayor));
    }

    private static boolean[] after(State t, boolean[] lit, int nights) {
        boolean[] now = lit;
        for (int n = 0; n < nights; n++) {
            now = step(t, now);
        }
        return now;
    }

    private static void passNight(State t) {
        boolean[] then = step(t, t.lit);
        for (int p = 0; p < then.length; p++) {
            if (isFree(t, p)) {
                String what = (t.lit[p] ? "lit " : "dark ") + litAround(t, t.lit, p);
                t.seen.computeIfAbsent(what, k -> new HashSet<>()).add(then[p] ? 2 : 1);
            }
        }
        t.oil += count(t.lit);
        t.nights++;
        t.lit = then;
    }

    private static int count(boolean[] lit) {
        int many = 0;
        for (boolean b : lit) {
            many += b ? 1 : 0;
        }
        return many;
    }

    private static long number(boolean[] lit) {
        long n = 0;
        for (int p = lit.length - 1; p >= 0; p--) {
            n = 2 * n + (lit[p] ? 1 : 0);
        }
        return n;
    }

    private static long bits(Set<Integer> set) {
        long n = 0;
        for (int v : set) {
            n += 1L << v;
        }
        return n;
    }

    private static Set<Integer> unbits(long n) {
        Set<Integer> set = new HashSet<>();
        for (int v = 0; v < 5; v++) {
            if ((n >> v & 1) == 1) {
                set.add(v);
            }
        }
        return set;
    }

    private int place(int x, int y) {
        in(x, 0, s.wide - 1);
        in(y, 0, s.rows - 1);
        return y * s.wide + x;
    }

    private int housePlace(int x, int y) {
        int p = place(x, y);
        check(isHouse(p), 7);
        return p;
    }

    private int freePlace(int x, int y) {
        int p = place(x, y);
        check(isFree(s, p), 7);
        return p;
    }

    private long told(int what) {
        switch (what) {
            case 0: return s.wide;
            case 1: return s.rows;
            case 2: return s.letters.chars().filter(c -> c != 'n').count();
            case 3: return count(s.lit);
            case 4: return s.letters.chars().filter(c -> c == 'w' || c == 'x').count();
            case 5: return s.rules.size();
            case 6: return s.citizens.size();
            case 7: return s.nights;
            case 8: return s.oil;
            case 9: return s.ring && s.wide > 2 ? 1 : 0;
            case 10: check(s.mayor >= 0, 6); return s.mayor;
            default: throw new Refused(1);
        }
    }

    private long lamp(int x, int y, int what) {
        place(x, y);
        in(what, 0, 3);
        int p = housePlace(x, y);
        switch (what) {
            case 0: return s.lit[p] ? 1 : 0;
            case 1: return neighbours(s, p).size();
            case 2: return litAround(s, s.lit, p);
            default: return isFree(s, p) ? 0 : 1;
        }
    }

    private long paint(long picture) {
        for (int p : frees()) {
            s.lit[p] = (picture >> p & 1) == 1;
        }
        return count(s.lit);
    }

    private long paintRows(int tray) {
        rowsTray(tray);
        for (int y = 0; y < s.rows; y++) {
            check(trays[tray][y] >= 0 && trays[tray][y] <= 31, 5);
        }
        for (int p : frees()) {
            s.lit[p] = (trays[tray][p / s.wide] >> p % s.wide & 1) == 1;
        }
        return count(s.lit);
    }

    private long readRow(int y) {
        return number(Arrays.copyOfRange(s.lit, y * s.wide, (y + 1) * s.wide));
    }

    private long reads(int k, int what) {
        in(what, 0, 1);
        in(k, 0, what == 0 ? s.rows - 1 : s.wide - 1);
        if (what == 0) {
            return readRow(k);
        }
        boolean[] column = new boolean[s.rows];
        for (int y = 0; y < s.rows; y++) {
            column[y] = s.lit[y * s.wide + k];
        }
        return number(column);
    }

    private long mirror() {
        for (int y = 0; y < s.rows; y++) {
            for (int x = 0; x < s.wide; x++) {
                if (s.lit[y * s.wide + x] != s.lit[y * s.wide + s.wide - 1 - x]) {
                    return 0;
                }
            }
        }
        return 1;
    }

    // ---- nights

    private int[] round() {
        Map<Long, Integer> was = new HashMap<>();
        boolean[] now = s.lit;
        for (int n = 0; n <= 2000; n++) {
            Integer before = was.put(number(now), n);
            if (before != null) {
                return new int[] {before, n - before};
            }
            now = step(s, now);
        }
        throw new Refused(7);
    }

    private long far(int nights) {
        int[] r = round();
        int near = nights < r[0] ? nights : r[0] + (nights - r[0]) % r[1];
        return number(after(s, s.lit, near));
    }

    private int[] walks() {
        check(count(s.lit) > 0, 6);
        boolean[] now = s.lit;
        for (int n = 1; n <= 60; n++) {
            now = step(s, now);
            for (int dy = -5; dy <= 5; dy++) {
                for (int dx = -4; dx <= 4; dx++) {
                    if (isMoved(now, dx, dy)) {
                        return new int[] {n, dx, dy};
                    }
                }
            }
        }
        throw new Refused(6);
    }

    private boolean isMoved(boolean[] now, int dx, int dy) {
        boolean[] moved = new boolean[now.length];
        for (int p = 0; p < now.length; p++) {
            if (s.lit[p]) {
                int x = p % s.wide + dx;
                int y = p / s.wide + dy;
                if (x < 0 || x >= s.wide || y < 0 || y >= s.rows) {
                    return false;
                }
                moved[y * s.wide + x] = true;
            }
        }
        return Arrays.equals(moved, now);
    }

    private static boolean isStill(State t) {
        return Arrays.equals(t.lit, step(t, t.lit));
    }

    private long next(int what) {
        boolean[] then = step(s, s.lit);
        int many = 0;
        for (int p = 0; p < then.length; p++) {
            boolean counts = what == 0 ? !s.lit[p] && then[p] : what == 1 ? s.lit[p] && !then[p] : s.lit[p] && then[p];
            many += counts ? 1 : 0;
        }
        return many;
    }

    private long oil(int much) {
        State t = s.copy();
        int before = t.oil;
        for (int n = 0; n < 999; n++) {
            passNight(t);
            if (t.oil - before > much) {
                return n;
            }
        }
        return 999;
    }

    private long brightest(int nights) {
        int most = 0;
        boolean[] now = s.lit;
        for (int n = 0; n <= nights; n++) {
            most = Math.max(most, count(now));
            now = step(s, now);
        }
        return most;
    }

    // ---- ancestors, stills

    private List<Long> becoming(boolean itself) {
        List<Integer> frees = frees();
        List<Long> all = new ArrayList<>();
        for (int choice = 0; choice < 1 << frees.size(); choice++) {
            boolean[] lit = s.lit.clone();
            for (int k = 0; k < frees.size(); k++) {
                lit[frees.get(k)] = (choice >> k & 1) == 1;
            }
            if (Arrays.equals(step(s, lit), itself ? lit : s.lit)) {
                all.add(number(lit));
            }
        }
        return all;
    }

    private static long leastOf(List<Long> all) {
        check(!all.isEmpty(), 6);
        long least = Long.MAX_VALUE;
        for (long v : all) {
            least = Math.min(least, v);
        }
        return least;
    }

    // ---- turned by hand

    /** All sets of at most so many lamps that are not STUCK: fewer lamps first, of as many by their numbers. */
    private List<Long> sets(int most) {
        List<Long> all = new ArrayList<>();
        all.add(0L);
        List<Integer> f = frees();
        for (int a = 0; a < f.size(); a++) {
            long one = 1L << f.get(a);
            all.add(one);
            for (int b = a + 1; b < f.size() && most > 1; b++) {
                long two = one | 1L << f.get(b);
                all.add(two);
                for (int c = b + 1; c < f.size() && most > 2; c++) {
                    all.add(two | 1L << f.get(c));
                }
            }
        }
        all.sort((p, q) -> Long.bitCount(p) != Long.bitCount(q)
            ? Integer.compare(Long.bitCount(p), Long.bitCount(q)) : Long.compare(p, q));
        return all;
    }

    private boolean[] turned(long set) {
        boolean[] lit = s.lit.clone();
        for (int p = 0; p < lit.length; p++) {
            lit[p] ^= (set >> p & 1) == 1;
        }
        return lit;
    }

    private long signal(int x, int y, int nights, int what) {
        place(x, y);
        in(nights, 0, 30);
        in(what, 0, 1);
        int p = housePlace(x, y);
        for (long set : sets(3)) {
            if (after(s, turned(set), nights)[p]) {
                return what == 0 ? Long.bitCount(set) : set;
            }
        }
        throw new Refused(6);
    }

    private int spoilt(int p, int nights) {
        boolean[] one = after(s, s.lit, nights);
        boolean[] other = after(s, turned(1L << p), nights);
        int many = 0;
        for (int q = 0; q < one.length; q++) {
            many += one[q] != other[q] ? 1 : 0;
        }
        return many;
    }

    private long worst(int nights, int what) {
        in(nights, 0, 30);
        in(what, 0, 1);
        check(!frees().isEmpty(), 6);
        int best = -1;
        int bestPlace = -1;
        for (int p : frees()) {
            if (spoilt(p, nights) > best) {
                best = spoilt(p, nights);
                bestPlace = p;
            }
        }
        return what == 0 ? bestPlace : best;
    }

    private static int unlike(boolean[] lit, long picture) {
        int many = 0;
        for (int p = 0; p < lit.length; p++) {
            many += lit[p] != ((picture >> p & 1) == 1) ? 1 : 0;
        }
        return many;
    }

    private long mend(long picture, int what) {
        long bestSet = -1;
        int best = 1000;
        for (long set : sets(2)) {
            int unlike = unlike(step(s, turned(set)), picture);
            if (unlike < best) {
                best = unlike;
                bestSet = set;
            }
        }
        return what == 0 ? best : bestSet;
    }

    // ---- seen

    private int seenOf(int state, int neighbours) {
        Set<Integer> was = s.seen.getOrDefault((state == 1 ? "lit " : "dark ") + neighbours, Set.of());
        return (was.contains(1) ? 1 : 0) + (was.contains(2) ? 2 : 0);
    }

    private boolean fitsSeen(Set<Integer> born, Set<Integer> stays) {
        for (int n = 0; n < 5; n++) {
            int dark = seenOf(0, n);
            int lit = seenOf(1, n);
            if (dark == 3 || lit == 3 || dark == 2 && !born.contains(n) || dark == 1 && born.contains(n)
                || lit == 2 && !stays.contains(n) || lit == 1 && stays.contains(n)) {
                return false;
            }
        }
        return true;
    }

    private long rulesLeft() {
        int many = 0;
        for (int born = 0; born < 32; born++) {
            for (int stays = 0; stays < 32; stays++) {
                many += fitsSeen(unbits(born), unbits(stays)) ? 1 : 0;
            }
        }
        return many;
    }

    private long fits() {
        Set<Integer> fitting = new HashSet<>();
        for (int k = 0; k < s.rules.size(); k++) {
            if (fitsSeen(s.rules.get(k).born, s.rules.get(k).stays)) {
                fitting.add(k);
            }
        }
        return bits(fitting);
    }

    private long shows() {
        Set<String> shown = new HashSet<>();
        for (int p : frees()) {
            int n = litAround(s, s.lit, p);
            if (seenOf(s.lit[p] ? 1 : 0, n) == 0) {
                shown.add(s.lit[p] + " " + n);
            }
        }
        return shown.size();
    }

    // ---- elections

    private static int vote(State t, Citizen c) {
        for (int k = 0; k < t.rules.size(); k++) {
            int lit = count(stepBy(t, t.lit, t.rules.get(k)));
            if (lit >= c.least && lit <= c.most) {
                return k;
            }
        }
        int best = -1;
        int bestWay = 1000;
        for (int k = 0; k < t.rules.size(); k++) {
            int lit = count(stepBy(t, t.lit, t.rules.get(k)));
            int way = Math.min(Math.abs(lit - c.least), Math.abs(lit - c.most));
            if (way < bestWay) {
                bestWay = way;
                best = k;
            }
        }
        return best;
    }

    private static int votes(State t, int rule) {
        int many = 0;
        for (Citizen c : t.citizens) {
            many += vote(t, c) == rule ? 1 : 0;
        }
        return many;
    }

    private static boolean elect(State t) {
        if (t.rules.isEmpty() || t.citizens.isEmpty()) {
            return false;
        }
        int best = 0;
        for (int k = 1; k < t.rules.size(); k++) {
            if (votes(t, k) > votes(t, best)) {
                best = k;
            }
        }
        t.mayor = best;
        return true;
    }

    // ---- ships

    private Set<Integer> heapAt(int p) {
        Set<Integer> heap = new HashSet<>();
        List<Integer> todo = new ArrayList<>(List.of(p));
        while (!todo.isEmpty()) {
            int q = todo.remove(todo.size() - 1);
            if (s.lit[q] && heap.add(q)) {
                todo.addAll(neighbours(s, q));
            }
        }
        return heap;
    }

    private long heaps(int what) {
        Set<Set<Integer>> all = new HashSet<>();
        int largest = 0;
        for (int p = 0; p < s.lit.length; p++) {
            if (s.lit[p]) {
                all.add(heapAt(p));
                largest = Math.max(largest, heapAt(p).size());
            }
        }
        return what == 0 ? all.size() : largest;
    }

    private long heap(int x, int y) {
        return heapAt(housePlace(x, y)).size();
    }

    private void tell(long over, long under) {
        long g = BigInteger.valueOf(over).gcd(BigInteger.valueOf(under)).longValue();
        top = over / g;
        bottom = under / g;
    }

    private long company() {
        check(count(s.lit) > 0, 6);
        int sum = 0;
        for (int p = 0; p < s.lit.length; p++) {
            sum += s.lit[p] ? litAround(s, s.lit, p) : 0;
        }
        tell(sum, count(s.lit));
        return 1;
    }

    // ---- years

    /** Thrown where a YEAR ends ahead of its last STEP. */
    private static final class Over extends RuntimeException {
        private static final long serialVersionUID = 1;

        final boolean left;

        Over(boolean left) {
            super(null, null, false, false);
            this.left = left;
        }
    }

    private static final class Life {
        final State t;
        long drawn;
        int steps;
        int[] lived = new int[5];

        Life(State t, int seed) {
            this.t = t;
            drawn = seed;
        }

        int draw(int n) {
            drawn = (drawn * 2879 + 11083) % 65536;
            return (int) (drawn / 8 % n);
        }

        void all() {
            try {
                list(t.year);
            } catch (Over o) {
                lived[4] = o.left ? 1 : 0;
            }
        }

        void list(List<Step> list) {
            for (Step step : list) {
                if (steps == 300) {
                    throw new Over(true);
                }
                steps++;
                one(step);
            }
        }

        void one(Step step) {
            switch (step.word) {
                case "night":
                    for (int n = 0; n < step.first; n++) {
                        passNight(t);
                        lived[1]++;
                    }
                    break;
                case "turn":
                    int p = step.second * t.wide + step.first;
                    if (isFree(t, p)) {
                        t.lit[p] = !t.lit[p];
                    } else {
                        lived[0]++;
                    }
                    break;
                case "mayor": t.mayor = step.first; break;
                case "elect": lived[0] += elect(t) ? 0 : 1; break;
                case "storm": storm(step.first); break;
                case "birth": birth(); break;
                case "when":
                    if (holds(step)) {
                        list(step.body);
                    }
                    break;
                case "loop":
                    for (int n = 0; n < step.first; n++) {
                        list(step.body);
                    }
                    break;
                default: throw new Over(false);
            }
        }

        boolean holds(Step step) {
            switch (step.test) {
                case "same": return isStill(t);
                case "lamp": return t.lit[step.second * t.wide + step.first];
                case "<": return count(t.lit) < step.first;
                case ">": return count(t.lit) > step.first;
                default: return count(t.lit) == step.first;
            }
        }

        void storm(int n) {
            for (int p = 0; p < t.lit.length; p++) {
                if (t.lit[p] && isFree(t, p) && draw(16) < n) {
                    t.lit[p] = false;
                    lived[2]++;
                }
            }
        }

        void birth() {
            int x = draw(t.wide);
            int y = draw(t.rows);
            int p = y * t.wide + x;
            if (isFree(t, p) && !t.lit[p]) {
                t.lit[p] = true;
                lived[3]++;
            } else {
                lived[0]++;
            }
        }
    }

    private long live(int seed) {
        in(seed, 0, 9999);
        check(s.year != null, 6);
        Life life = new Life(s, seed);
        life.all();
        lastLived = life.lived;
        return life.steps;
    }

    private long mean(int seed, int many) {
        in(seed, 0, 9999);
        in(many, 1, 20);
        in(seed + many - 1, 0, 9999);
        check(s.year != null, 6);
        int sum = 0;
        for (int k = 0; k < many; k++) {
            State t = s.copy();
            new Life(t, seed + k).all();
            sum += count(t.lit);
        }
        tell(sum, many);
        return 1;
    }
}
