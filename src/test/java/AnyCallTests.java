import java.util.Random;

/** Calls with any numbers at all: none may throw, all answer alike each time. */
public final class AnyCallTests {
    private static final Checks C = new Checks();
    private static final int[] EDGES = {Integer.MIN_VALUE, Integer.MIN_VALUE + 1, -65536, -2, -1, 0, 1, 2, 3, 4, 5, 6, 7,
        19, 20, 21, 29, 30, 31, 32, 59, 60, 61, 98, 99, 100, 300, 301, 899, 900, 901, 998, 999, 1000, 9998, 9999, 10000,
        999999999, 1000000000, (1 << 30) - 1, 1 << 30, Integer.MAX_VALUE - 1, Integer.MAX_VALUE};

    public static void main(String[] args) {
        C.test("any numbers", AnyCallTests::anyNumbers);
        C.test("any numbers, every call on a new object", AnyCallTests::newObjects);
        C.test("dear calls in the largest town", AnyCallTests::dearCalls);
        C.end();
    }

    private static long any(Random random) {
        switch (random.nextInt(4)) {
            case 0: return EDGES[random.nextInt(EDGES.length)];
            case 1: return random.nextInt(6);
            case 2: return random.nextInt(40) - 4;
            default: return random.nextLong() >> random.nextInt(64);
        }
    }

    private static long call(WindowHill h, Random random, String call) {
        String[] parts = call.split(" ");
        long[] numbers = new long[parts.length > 1 ? parts[1].length() : 0];
        for (int k = 0; k < numbers.length; k++) {
            numbers[k] = any(random);
        }
        return Caller.call(h, parts[0], numbers);
    }

    private static long run(int seed) {
        Random random = new Random(seed);
        Texts texts = new Texts(random);
        WindowHill h = new WindowHill();
        long all = 0;
        for (int k = 0; k < 450; k++) {
            if (random.nextInt(12) == 0) {
                Checks.town(h, texts.join(texts.town(random.nextBoolean())));
            } else if (random.nextInt(12) == 0) {
                Checks.year(h, texts.join(texts.year()));
            }
            all = all * 31 + call(h, random, Caller.CALLS[random.nextInt(Caller.CALLS.length)]) * 7 + h.status();
        }
        return all;
    }

    private static void anyNumbers() {
        for (int seed = 0; seed < 60; seed++) {
            C.due("the same again " + seed, run(seed), run(seed));
        }
    }

    private static void newObjects() {
        for (String call : Caller.CALLS) {
            Random random = new Random(call.hashCode());
            for (int k = 0; k < 100; k++) {
                call(new WindowHill(), random, call);
            }
        }
    }

    private static void dearCalls() {
        StringBuilder text = new StringBuilder("wide 5 ring;");
        for (int y = 0; y < 6; y++) {
            text.append("row dldld;");
        }
        text.append("rule a born 1 3 stays 0 2 4;rule b born 2 stays 1 2;citizen c likes 9 to 12;");
        String[] dear = {"signal 4 5 30 0", "mean 1 20", "ancestors", "firstStill", "worst 30 0", "oil 9999", "again 0",
            "mend 1 0", "night 999", "far 999999999", "live 3", "brightest 999", "walks 0"};
        for (String call : dear) {
            String[] parts = call.split(" ");
            long[] numbers = new long[parts.length - 1];
            for (int k = 0; k < numbers.length; k++) {
                numbers[k] = Long.parseLong(parts[k + 1]);
            }
            WindowHill h = Checks.hill(text.toString(), "loop 99;night 97;storm 2;when lit>20;birth;end;end;");
            h.bend(0, 21, 10);
            h.paint(1234567);
            for (int k = 0; k < 20; k++) {
                Caller.call(h, parts[0], numbers);
                C.due(call, h.status() == 0 || h.status() >= 6, true);
            }
        }
    }
}
