import java.util.ArrayList;
import java.util.List;
import java.util.Random;

/** Draws runs of calls and asks WindowHill and PlainHill the same; their answers must not differ. */
public final class ReferenceTests {
    private static final int RUNS = 300;
    private static final int CALLS = 160;
    private final Random random;
    private final Texts texts;
    private final WindowHill hill = new WindowHill();
    private final PlainHill plain = new PlainHill();
    private final List<String> said = new ArrayList<>();
    private int fed;

    private ReferenceTests(long seed) {
        random = new Random(seed);
        texts = new Texts(random);
    }

    public static void main(String[] args) {
        long first = args.length > 0 ? Long.parseLong(args[0]) : 1;
        int runs = args.length > 1 ? Integer.parseInt(args[1]) : RUNS;
        int passed = 0;
        int failed = 0;
        for (int run = 0; run < runs; run++) {
            ReferenceTests one = new ReferenceTests(first + run);
            String wrong = one.run();
            if (wrong == null) {
                passed++;
            } else {
                failed++;
                System.out.println("FAILED: run " + (first + run) + ": " + String.join("\n  ", one.said) + "\n" + wrong);
            }
        }
        System.out.println(passed + " passed, " + failed + " failed");
        if (failed > 0) {
            System.exit(1);
        }
    }

    private int from(int least, int most) {
        return least + random.nextInt(most - least + 1);
    }

    /** What was wrong, or null. */
    private String run() {
        boolean small = random.nextInt(3) > 0;
        String wrong = feedTown(small, 0);
        for (int tray = random.nextInt(3); tray < 4 && wrong == null; tray++) {
            wrong = same("tray", tray, random.nextInt(4), from(3, 10));
        }
        for (int call = 0; call < CALLS && wrong == null; call++) {
            int what = random.nextInt(60);
            if (what == 0) {
                wrong = feedTown(small, random.nextInt(3));
            } else if (what < 5) {
                wrong = feedYear(random.nextInt(5) == 0 ? 1 : 0);
            } else {
                wrong = ask(Caller.CALLS[random.nextInt(Caller.CALLS.length)].split(" ")[0]);
            }
            if (wrong == null && what % 8 == 0) {
                wrong = askAll();
            }
        }
        return wrong;
    }

    private String same(String name, long... a) {
        long one = Caller.call(hill, name, a);
        long other = plain.call(name, a);
        StringBuilder call = new StringBuilder(name);
        for (long v : a) {
            call.append(' ').append(v);
        }
        said.add(call + " = " + other);
        if (one != other) {
            return call + " answered " + one + ", due is " + other;
        }
        if (hill.status() != plain.status) {
            return call + ": STATUS " + hill.status() + ", due is " + plain.status;
        }
        if (hill.top() != plain.top || hill.bottom() != plain.bottom) {
            return call + ": FRACTION " + hill.top() + " by " + hill.bottom() + ", due is " + plain.top + " by "
                + plain.bottom;
        }
        return null;
    }

    private String feedText(String text) {
        said.add(text);
        for (int at = 0; at < text.length(); at += 20) {
            long[] words = new long[5];
            for (int k = 0; k < 20; k++) {
                int c = at + k < text.length() ? text.charAt(at + k) : 0;
                words[k / 4] = words[k / 4] << 8 | c;
            }
            for (int k = 0; k < 5; k++) {
                words[k] = (int) words[k];
            }
            String wrong = same("feed", words);
            if (wrong != null) {
                return wrong;
            }
            fed = Math.min(900, fed + 20);
        }
        return null;
    }

    private String takeText(String name, String text) {
        int n = fed > 0 || random.nextInt(40) == 0 ? from(-2, 905) : text.length();
        String wrong = feedText(text);
        wrong = wrong != null ? wrong : same(name, n);
        if (hill.status() != 1) {
            fed = 0;
        }
        for (int what = -1; what < 3 && wrong == null; what++) {
            wrong = same("fault", what);
        }
        return wrong;
    }

    private String feedTown(boolean small, int spoilt) {
        int wide = texts.wide;
        int rows = texts.rows;
        List<String> rules = texts.rules;
        List<String> t = texts.town(small);
        for (int k = 0; k < spoilt; k++) {
            texts.spoil(t);
        }
        String wrong = takeText("town", texts.join(t));
        if (hill.status() != 0) {
            texts.wide = wide;
            texts.rows = rows;
            texts.rules = rules;
        }
        return wrong;
    }

    private String feedYear(int spoilt) {
        List<String> t = texts.year();
        for (int k = 0; k < spoilt; k++) {
            texts.spoil(t);
        }
        return takeText("year", texts.join(t));
    }

    private String askAll() {
        String wrong = null;
        String[] none = {"picture", "still", "rulesLeft", "fits", "shows", "mirror", "pictures"};
        for (int k = 0; k < none.length && wrong == null; k++) {
            wrong = same(none[k]);
        }
        for (int k = -1; k < 12 && wrong == null; k++) {
            wrong = same("told", k);
        }
        for (int k = 0; k < 10 && wrong == null; k++) {
            wrong = same("seen", k / 5, k % 5);
        }
        for (int k = 0; k < 8 && wrong == null; k++) {
            wrong = same("rule", k / 2, k % 2);
        }
        for (int k = 0; k < 5 && wrong == null; k++) {
            wrong = same("lived", k);
        }
        return wrong;
    }

    private int free() {
        return Long.numberOfTrailingZeros(Math.min(hill.pictures(), plain.call("pictures")));
    }

    private long odd(long v, long... others) {
        return random.nextInt(12) == 0 ? others[random.nextInt(others.length)] : v;
    }

    private int x() {
        return from(random.nextInt(9) == 0 ? -1 : 0, hill.told(0) - (random.nextInt(9) == 0 ? 0 : 1));
    }

    private int y() {
        return from(random.nextInt(9) == 0 ? -1 : 0, hill.told(1) - (random.nextInt(9) == 0 ? 0 : 1));
    }

    private long anyPicture() {
        return odd(from(0, (1 << 30) - 1), 0, 1, (1 << 30) - 1, 1 << 30, -1, Long.MIN_VALUE, Long.MAX_VALUE, 1L << 32);
    }

    private int tray() {
        return from(random.nextInt(9) == 0 ? -1 : 0, random.nextInt(9) == 0 ? 4 : 3);
    }

    private String ask(String name) {
        switch (name) {
            case "feed": case "town": case "year": return null;
            case "tray": return same(name, tray(), odd(from(0, 3), -1, 4), odd(from(0, 12), 60, 61, -1, 0));
            case "write": return same(name, tray(), odd(from(0, 6), -1, 59, 60),
                random.nextBoolean() ? from(0, 32) : random.nextLong() >> random.nextInt(64));
            case "read": return same(name, tray(), odd(from(0, 6), -1, 59, 60));
            case "pour": return same(name, tray(), odd(from(0, 4), -1, 60), tray(), odd(from(0, 4), -1, 60),
                odd(from(0, 6), -1, 60, Integer.MAX_VALUE));
            case "lamp": return same(name, x(), y(), odd(from(0, 3), -1, 4));
            case "rule": case "citizen": return same(name, odd(from(0, 2), -1, 3, 4, 5, 6), odd(from(0, 1), -1, 2));
            case "turn": case "heap": return same(name, x(), y());
            case "paint": case "unlike": return same(name, anyPicture());
            case "mend": return same(name, anyPicture(), odd(from(0, 1), -1, 2));
            case "bend": return same(name, odd(from(0, 3), -1, 4), odd(from(0, 31), -1, 32), odd(from(0, 31), -1, 32));
            case "night": return same(name, odd(from(1, 5), 0, 1000, 999, 40, -1));
            case "ahead": case "brightest": return same(name, odd(from(0, 20), -1, 1000, 999));
            case "far": return same(name, odd(from(0, 999999999), -1, 1000000000, 999999999, 0, 3));
            case "oil": return same(name, odd(from(0, 300), -1, 10000, 9999));
            case "signal": return askSignal();
            case "spoils": return same(name, x(), y(), odd(from(0, 30), -1, 31));
            case "worst": return same(name, odd(from(0, 30), -1, 31), odd(from(0, 1), -1, 2));
            case "reads": return same(name, odd(from(0, 3), -1, 4, 5, 6), odd(from(0, 1), -1, 2));
            case "live": return same(name, odd(from(0, 9999), -1, 10000));
            case "mean": return askMean();
            case "ancestors": case "ancestor": case "stills": case "firstStill":
                return free() > 12 ? null : same(name);
            default: return askPlain(name);
        }
    }

    private String askPlain(String name) {
        for (String call : Caller.CALLS) {
            if (call.equals(name)) {
                return same(name);
            }
            if (call.equals(name + " i")) {
                return same(name, random.nextInt(6) == 0 ? from(-2, 12) : from(0, call.contains("Rows") ? 3 : 2));
            }
            if (call.equals(name + " ii")) {
                return same(name, odd(from(0, 1), -1, 2), odd(from(0, 4), -1, 5));
            }
        }
        throw new IllegalStateException(name);
    }

    private String askSignal() {
        int nights = (int) odd(from(0, free() > 12 ? 3 : 30), -1, 31);
        return same("signal", x(), y(), nights, odd(from(0, 1), -1, 2));
    }

    private String askMean() {
        int seed = (int) odd(from(0, 9999), -1, 10000, 9999, 9980, 9981);
        return same("mean", seed, odd(from(1, 4), 0, 20, 21, 1));
    }
}
