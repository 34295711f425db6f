import java.util.Arrays;
import java.util.Set;

/**
 * Tests of one call each. Calls are told as texts, "turn 2 0"; "town: .." and "year: .." feed a text and take it,
 * "feed: .." feeds one alone.
 */
final class Rows {
    /** The largest and the least int, as the number of a call. */
    static final String MAX = " " + Integer.MAX_VALUE;
    static final String MIN = " " + Integer.MIN_VALUE;
    /** What is lit stays, and all around it is lit the next night. */
    static final String SPREAD = "rule spread born 1 2 3 4 stays 0 1 2 3 4;";
    /** Much of everything: a TOWN with all kinds of PLACES, a YEAR, three TRAYS, a MARK; the tape is empty. */
    static final String[] RICH = {"town: wide 3 ring;row dln;row wxd;rule a born 1 2 stays 1;rule b stays 0 2;"
        + "citizen c likes 2 to 4;citizen d likes 0 to 0;", "year: turn 0 0;night 2;mayor b;storm 3;birth;",
        "tray 0 0 5", "write 0 4 31", "tray 1 1 4", "write 1 0 300", "tray 2 0 3", "write 2 2 -1", "night 3", "mark",
        "live 5", "paint 35", "company"};
    /** That, and a text on the tape. */
    static final String[] TAPED = and(RICH, "feed: wide 1;row d;rule a;");
    /** What may change what is there; all others must not. */
    private static final Set<String> CHANGES = Set.of("tray", "write", "pour", "feed", "town", "year", "turn", "paint",
        "paintRows", "copyRows", "mayor", "bend", "night", "forget", "elect", "company", "live", "mean", "mark", "back");
    private static final Set<String> NO_STATUS = Set.of("status", "top", "bottom", "feed", "fault");
    private static final Set<String> BOOLEANS = Set.of("tray", "write", "pour", "mayor", "bend", "company", "mean");
    /** TOWNS of WIDTHS and ROWS of their own, with a RING or without. */
    static final String[] UNLIKE_TOWNS = {"wide 2;row ld;row dl;row ll;" + SPREAD,
        "wide 5 ring;row ldddl;row ddddd;" + SPREAD, "wide 1;row l;row d;row l;row d;row d;row l;" + SPREAD,
        "wide 3 ring;row dld;row ddl;row ddd;row ldd;" + SPREAD,
        "wide 4;row dlnd;row ldwx;row dddd;row dddd;row ldnl;" + SPREAD};
    private static final String[] ASKED = {"spoils 0 0 1", "unlike 1023", "walks 0", "ancestors", "stills", "heaps 0",
        "heaps 1", "mirror", "reads 0 1", "worst 1 0", "mend 21 0", "told 4", "again 0", "signal 0 1 1 1", "night 1",
        "picture", "seen 0 1", "ancestor", "ahead 1"};
    private final Checks checks;
    private String[] ahead = {};

    Rows(Checks checks) {
        this.checks = checks;
    }

    static String[] and(String[] calls, String... more) {
        String[] all = Arrays.copyOf(calls, calls.length + more.length);
        System.arraycopy(more, 0, all, calls.length, more.length);
        return all;
    }

    /** The calls that are done ahead of the one that is tested, in the rows from here on. */
    void on(String... calls) {
        ahead = calls;
    }

    /**
     * STATUS 0 and this answer, behind a refused call; then calls and their answers, "picture = 5". A call that only asks
     * answers so twice and changes nothing.
     */
    void gives(String why, String call, long answer, String... then) {
        String[] from = ahead;
        checks.test(named(call, why), () -> {
            WindowHill h = made(from);
            if (!NO_STATUS.contains(nameOf(call))) {
                h.told(-1);
            }
            checks.due("it", run(h, call), answer);
            checks.due("STATUS", h.status(), 0);
            for (String t : then) {
                int equals = t.lastIndexOf(" = ");
                checks.due(t, run(h, t.substring(0, equals)), Long.parseLong(t.substring(equals + 3)));
            }
            if (!CHANGES.contains(nameOf(call))) {
                checks.due("it again", run(h, call), answer);
                checks.due("all is as it was", everything(h).equals(everything(made(from))), true);
            }
        });
    }

    /** STATUS 0, and this FRACTION. */
    void tells(String why, String call, long top, long bottom) {
        gives(why, call, 1, "top = " + top, "bottom = " + bottom);
    }

    /** NONE or false, this STATUS, and all is as it was. */
    void refuses(String why, int status, String call) {
        String[] from = ahead;
        checks.test(named(call, why), () -> {
            WindowHill h = made(from);
            checks.due("it", run(h, call), BOOLEANS.contains(nameOf(call)) ? 0 : -1);
            checks.due("STATUS", h.status(), status);
            checks.due("all is as it was", everything(h).equals(everything(made(from))), true);
        });
    }

    /** A text with a FAULT: NONE, STATUS 9, the FAULT, an empty tape, and all else is as it was. */
    void faults(String why, String call, int kind, int place) {
        String[] from = ahead;
        checks.test(named(call, why), () -> {
            WindowHill h = made(from);
            checks.due("it", run(h, call), -1);
            checks.due("STATUS", h.status(), 9);
            checks.due("FAULT", h.fault(0), kind);
            checks.due("its place", h.fault(1), place);
            checks.due("the tape", h.feed(0, 0, 0, 0, 0), 20);
            WindowHill twin = made(from);
            twin.feed(0, 0, 0, 0, 0);
            // the same FAULT for both, so that all else can be compared
            h.town(0);
            twin.town(0);
            checks.due("all is as it was", everything(h).equals(everything(twin)), true);
        });
    }

    /** What these calls change (they do) is as it was, behind a MARK ahead of them and a back. */
    void takesBack(String what, String... changes) {
        String[] from = ahead;
        checks.test(named("back", what + " from " + changes[changes.length - 1]), () -> {
            WindowHill h = made(and(and(and(from, "mark"), changes), "back"));
            String before = everything(made(from));
            checks.due("it changed", everything(made(and(from, changes))).equals(before), false);
            checks.due("all is as it was", everything(h).equals(before), true);
        });
    }

    /** With the number of the promise: they stand as the calls do, behind that of the constructor. */
    private static String named(String call, String why) {
        int promise = 2;
        while (!Caller.CALLS[promise - 2].split(" ")[0].equals(nameOf(call))) {
            promise++;
        }
        String shown = call.length() > 90 ? call.substring(0, 90) + ".." : call;
        return promise + " " + shown.replaceAll("[^ -~]", "?") + ": " + why;
    }

    /** Whatever is asked, it answers as a new object with this TOWN does. */
    static void sameAsNew(Checks checks, WindowHill h, String town) {
        WindowHill plain = made("town: " + town);
        for (String call : ASKED) {
            checks.due(call + " of " + town, run(h, call), run(plain, call));
            checks.due(call + " of " + town + ": STATUS", h.status(), plain.status());
        }
    }

    private static String nameOf(String call) {
        return call.split("[ :]")[0];
    }

    static WindowHill made(String... calls) {
        WindowHill h = new WindowHill();
        for (String call : calls) {
            boolean text = call.startsWith("town: ") || call.startsWith("year: ");
            if (run(h, call) < 0 && text) {
                throw new IllegalStateException("FAULT " + h.fault(0) + " at " + h.fault(1) + " of " + call);
            }
        }
        return h;
    }

    static long run(WindowHill h, String call) {
        if (call.startsWith("town: ")) {
            return Checks.town(h, call.substring(6));
        }
        if (call.startsWith("year: ")) {
            return Checks.year(h, call.substring(6));
        }
        if (call.startsWith("feed: ")) {
            return Checks.feed(h, call.substring(6));
        }
        String[] parts = call.split(" ");
        long[] numbers = new long[parts.length - 1];
        for (int k = 0; k < numbers.length; k++) {
            numbers[k] = Long.parseLong(parts[k + 1]);
        }
        return Caller.call(h, parts[0], numbers);
    }

    /** All there is, by calls that change it: the object is of no use behind it. */
    private static String everything(WindowHill h) {
        StringBuilder all = new StringBuilder(Checks.all(h));
        addLives(all, h);
        all.append(" tape ").append(h.feed(0x0a0a0a0a, 0x0a0a0a0a, 0x0a0a0a0a, 0x0a0a0a0a, 0x0a0a0a0a));
        int marks = h.back();
        while (marks >= 0 && marks < 3) {
            all.append(" MARK ").append(marks).append(' ').append(Checks.all(h));
            addLives(all, h);
            marks = h.back();
        }
        int fed = h.feed(0, 0, 0, 0, 0);
        all.append(" text ").append(h.town(Math.max(0, fed - 20))).append(' ').append(h.fault(0)).append(h.fault(1));
        return all.toString();
    }

    /** The YEAR and what else can't be asked for. */
    private static void addLives(StringBuilder all, WindowHill h) {
        all.append(" lives ").append(h.live(3));
        for (int what = 0; what < 5; what++) {
            all.append(' ').append(h.lived(what));
        }
        all.append(" to ").append(h.picture()).append(' ').append(h.elect()).append(' ').append(h.ahead(1));
    }
}
