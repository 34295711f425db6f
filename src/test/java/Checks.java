import java.util.function.BooleanSupplier;
import java.util.function.LongSupplier;

/** What the tests of the promises share: tests by names, what is due, what is refused. */
final class Checks {
    private int passed;
    private int failed;
    private boolean fine;
    private String name;

    /** A test counts once, however much it asks. */
    void test(String called, Runnable asks) {
        name = called;
        fine = true;
        try {
            asks.run();
        } catch (RuntimeException e) {
            wrong("threw " + e);
        }
        if (fine) {
            passed++;
        } else {
            failed++;
        }
    }

    void end() {
        System.out.println(passed + " passed, " + failed + " failed");
        if (failed > 0) {
            System.exit(1);
        }
    }

    private void wrong(String what) {
        fine = false;
        System.out.println("FAILED: " + name + ": " + what);
    }

    void due(String what, long got, long want) {
        if (got != want) {
            wrong(what + " answered " + got + ", due is " + want);
        }
    }

    void due(String what, boolean got, boolean want) {
        due(what, got ? 1 : 0, want ? 1 : 0);
    }

    /** A call that is done: its answer, and STATUS 0. */
    void done(WindowHill h, String what, LongSupplier call, long want) {
        due(what, call.getAsLong(), want);
        due(what + ": STATUS", h.status(), 0);
    }

    void doneSo(WindowHill h, String what, BooleanSupplier call) {
        due(what, call.getAsBoolean(), true);
        due(what + ": STATUS", h.status(), 0);
    }

    /** A call that is done and changes nothing. */
    void asked(WindowHill h, String what, LongSupplier call, long want) {
        String before = all(h);
        done(h, what, call, want);
        unchanged(what, before, all(h));
    }

    /** A call with a STATUS: NONE, and all is as it was. */
    void refused(WindowHill h, int status, String what, LongSupplier call) {
        String before = all(h);
        due(what, call.getAsLong(), -1);
        due(what + ": STATUS", h.status(), status);
        unchanged(what, before, all(h));
    }

    void denied(WindowHill h, int status, String what, BooleanSupplier call) {
        String before = all(h);
        due(what, call.getAsBoolean(), false);
        due(what + ": STATUS", h.status(), status);
        unchanged(what, before, all(h));
    }

    private void unchanged(String what, String before, String then) {
        if (!before.equals(then)) {
            wrong(what + " changed " + before + " to " + then);
        }
    }

    private static void add(StringBuilder all, long v) {
        all.append(v).append(' ');
    }

    /** All that can be asked without a change, but for STATUS. */
    static String all(WindowHill h) {
        StringBuilder all = new StringBuilder();
        add(all, h.picture());
        add(all, h.top());
        add(all, h.bottom());
        add(all, h.fault(0));
        add(all, h.fault(1));
        for (int k = 0; k < 11; k++) {
            add(all, h.told(k));
        }
        for (int k = 0; k < 12; k++) {
            add(all, h.rule(k / 2, k % 2));
            add(all, h.citizen(k / 2, k % 2));
            add(all, h.seen(k / 5, k % 5));
            add(all, h.lived(k));
        }
        for (int tray = 0; tray < 4; tray++) {
            addTray(all, h, tray);
        }
        return all.toString();
    }

    private static void addTray(StringBuilder all, WindowHill h, int tray) {
        boolean there = true;
        for (int place = 0; place < 60 && there; place++) {
            add(all, h.read(tray, place));
            there = h.status() == 0;
        }
        add(all, h.status());
    }

    /** Feeds a text, filled up with bytes 0: how many bytes the text itself has. */
    static int feed(WindowHill h, String text) {
        for (int at = 0; at < text.length(); at += 20) {
            int[] words = new int[5];
            for (int k = 0; k < 20; k++) {
                int sign = at + k < text.length() ? text.charAt(at + k) : 0;
                words[k / 4] = words[k / 4] << 8 | sign;
            }
            h.feed(words[0], words[1], words[2], words[3], words[4]);
        }
        return text.length();
    }

    static int town(WindowHill h, String text) {
        return h.town(feed(h, text));
    }

    static int year(WindowHill h, String text) {
        return h.year(feed(h, text));
    }

    /** A new object with a TOWN that must be right. */
    static WindowHill hill(String text) {
        WindowHill h = new WindowHill();
        if (town(h, text) < 0) {
            throw new IllegalStateException("FAULT " + h.fault(0) + " at " + h.fault(1) + " of " + text);
        }
        return h;
    }

    static WindowHill hill(String text, String year) {
        WindowHill h = hill(text);
        if (year(h, year) < 0) {
            throw new IllegalStateException("FAULT " + h.fault(0) + " at " + h.fault(1) + " of " + year);
        }
        return h;
    }
}
