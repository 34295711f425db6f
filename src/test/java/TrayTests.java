/** Promises 1 to 9: a new object, STATUS, the FRACTION, TRAYS, the tape. */
public final class TrayTests {
    private static final Checks C = new Checks();

    public static void main(String[] args) {
        C.test("1 a new object", TrayTests::newObject);
        C.test("1 objects are apart", TrayTests::objectsAreApart);
        C.test("2 status", TrayTests::status);
        C.test("3, 4 top and bottom", TrayTests::topAndBottom);
        C.test("5 tray", TrayTests::tray);
        C.test("5 tray, wrong", TrayTests::trayWrong);
        C.test("6 write cuts to the sort", TrayTests::writeCuts);
        C.test("6 write, wrong", TrayTests::writeWrong);
        C.test("7 read", TrayTests::read);
        C.test("7 read, wrong", TrayTests::readWrong);
        C.test("8 pour", TrayTests::pour);
        C.test("8 pour onto itself", TrayTests::pourOntoItself);
        C.test("8 pour, wrong", TrayTests::pourWrong);
        C.test("9 feed", TrayTests::feed);
        C.end();
    }

    private static void newObject() {
        WindowHill h = new WindowHill();
        C.due("status", h.status(), 0);
        C.due("top", h.top(), 0);
        C.due("bottom", h.bottom(), 1);
        C.due("fault 0", h.fault(0), -1);
        C.due("fault 1", h.fault(1), -1);
        long[] told = {1, 1, 1, 0, 0, 0, 0, 0, 0, 0};
        for (int what = 0; what < told.length; what++) {
            C.due("told " + what, h.told(what), told[what]);
        }
        C.refused(h, 6, "told 10", () -> h.told(10));
        C.refused(h, 6, "live", () -> h.live(0));
        C.denied(h, 6, "mean", () -> h.mean(0, 1));
        C.refused(h, 6, "lived", () -> h.lived(0));
        C.refused(h, 6, "back", h::back);
        for (int tray = 0; tray < 4; tray++) {
            int t = tray;
            C.refused(h, 2, "read", () -> h.read(t, 0));
        }
        C.refused(h, 1, "town 1", () -> h.town(1));
        C.done(h, "seen", h::rulesLeft, 1024);
        C.done(h, "the house", () -> h.lamp(0, 0, 1), 0);
        C.done(h, "turn", () -> h.turn(0, 0), 1);
        C.done(h, "picture", h::picture, 1);
        C.due("NONE", WindowHill.NONE, -1);
    }

    private static void objectsAreApart() {
        WindowHill one = new WindowHill();
        WindowHill other = new WindowHill();
        one.turn(0, 0);
        one.tray(0, 0, 1);
        one.mark();
        Checks.feed(one, "wide");
        C.due("picture", other.picture(), 0);
        C.refused(other, 2, "read", () -> other.read(0, 0));
        C.refused(other, 6, "back", other::back);
        C.due("feed", other.feed(0, 0, 0, 0, 0), 20);
    }

    private static void status() {
        WindowHill h = new WindowHill();
        h.read(-1, 0);
        C.due("1", h.status(), 1);
        C.due("told again", h.status(), 1);
        h.top();
        h.bottom();
        h.feed(0, 0, 0, 0, 0);
        h.fault(0);
        h.fault(7);
        C.due("these have none", h.status(), 1);
        h.read(0, 0);
        C.due("2", h.status(), 2);
        h.tray(0, 0, 0);
        C.due("0", h.status(), 0);
        h.read(0, 0);
        C.due("3", h.status(), 3);
        h.town(0);
        C.due("9", h.status(), 9);
        h.picture();
        C.due("0 by picture", h.status(), 0);
    }

    private static void topAndBottom() {
        WindowHill h = Checks.hill("wide 3;row lll;row ddd;");
        C.due("top", h.top(), 0);
        C.due("bottom", h.bottom(), 1);
        h.company();
        C.due("4 by 3", h.top(), 4);
        C.due("4 by 3", h.bottom(), 3);
        h.paint(1);
        h.company();
        C.due("0", h.top(), 0);
        C.due("by 1", h.bottom(), 1);
        h.paint(3);
        h.company();
        C.due("2 by 2", h.top(), 1);
        C.due("2 by 2 told without a divisor", h.bottom(), 1);
        h.paint(0);
        C.denied(h, 6, "company", h::company);
        C.due("stays", h.top(), 1);
    }

    private static void tray() {
        WindowHill h = new WindowHill();
        for (int sort = 0; sort < 4; sort++) {
            int t = sort;
            C.doneSo(h, "tray", () -> h.tray(t, t, 60));
            C.done(h, "read", () -> h.read(t, 59), 0);
            C.doneSo(h, "write", () -> h.write(t, 59, 5));
            C.doneSo(h, "tray anew", () -> h.tray(t, t, 60));
            C.done(h, "read 0 again", () -> h.read(t, 59), 0);
        }
        C.doneSo(h, "an empty one", () -> h.tray(2, 1, 0));
        C.refused(h, 3, "read", () -> h.read(2, 0));
        C.done(h, "the next one stays", () -> h.read(3, 0), 0);
    }

    private static void trayWrong() {
        WindowHill h = new WindowHill();
        h.tray(1, 1, 3);
        h.write(1, 2, 77);
        int[][] wrong = {{-1, 0, 1}, {4, 0, 1}, {1, -1, 1}, {1, 4, 1}, {1, 0, -1}, {1, 0, 61},
            {Integer.MIN_VALUE, 0, 0}, {0, Integer.MAX_VALUE, 0}, {0, 0, Integer.MAX_VALUE}};
        for (int[] w : wrong) {
            C.denied(h, 1, "tray", () -> h.tray(w[0], w[1], w[2]));
        }
        C.due("as it was", h.read(1, 2), 77);
    }

    private static void writeCuts() {
        WindowHill h = new WindowHill();
        long[] numbers = {0, 127, 128, 255, 256, -1, -129, 32767, 32768, 65535, 2147483647L, 2147483648L, 4294967295L,
            Long.MAX_VALUE, Long.MIN_VALUE, 1L << 40};
        for (int sort = 0; sort < 4; sort++) {
            h.tray(sort, sort, 16);
            for (int k = 0; k < 16; k++) {
                h.write(sort, k, numbers[k]);
            }
            for (int k = 0; k < 16; k++) {
                long v = numbers[k];
                long want = sort == 0 ? (byte) v : sort == 1 ? (short) v : sort == 2 ? (int) v : v;
                C.due(sort + " of " + v, h.read(sort, k), want);
            }
        }
    }

    private static void writeWrong() {
        WindowHill h = new WindowHill();
        h.tray(0, 0, 2);
        C.denied(h, 1, "no such", () -> h.write(-1, 0, 1));
        C.denied(h, 1, "no such, nor place", () -> h.write(4, 99, 1));
        C.denied(h, 2, "missing", () -> h.write(1, 0, 1));
        C.denied(h, 2, "missing, nor place", () -> h.write(1, -1, 1));
        C.denied(h, 3, "behind", () -> h.write(0, 2, 1));
        C.denied(h, 3, "ahead", () -> h.write(0, -1, 1));
        C.denied(h, 3, "far", () -> h.write(0, Integer.MAX_VALUE, 1));
    }

    private static void read() {
        WindowHill h = new WindowHill();
        h.tray(3, 2, 2);
        h.write(3, 0, -1);
        C.done(h, "-1", () -> h.read(3, 0), -1);
        C.done(h, "0", () -> h.read(3, 1), 0);
    }

    private static void readWrong() {
        WindowHill h = new WindowHill();
        h.tray(0, 0, 2);
        C.refused(h, 1, "no such", () -> h.read(4, 0));
        C.refused(h, 1, "no such", () -> h.read(-1, -1));
        C.refused(h, 2, "missing", () -> h.read(3, 99));
        C.refused(h, 3, "behind", () -> h.read(0, 2));
        C.refused(h, 3, "ahead", () -> h.read(0, -1));
        C.refused(h, 3, "far", () -> h.read(0, Integer.MIN_VALUE));
    }

    private static void row(WindowHill h, int tray, long... want) {
        for (int k = 0; k < want.length; k++) {
            C.due("place " + k + " of " + tray, h.read(tray, k), want[k]);
        }
    }

    private static WindowHill poured() {
        WindowHill h = new WindowHill();
        h.tray(0, 1, 5);
        h.tray(1, 1, 4);
        for (int k = 0; k < 5; k++) {
            h.write(0, k, k + 1);
        }
        return h;
    }

    private static void pour() {
        WindowHill h = poured();
        C.doneSo(h, "pour", () -> h.pour(0, 1, 1, 2, 2));
        row(h, 1, 0, 0, 2, 3);
        row(h, 0, 1, 2, 3, 4, 5);
        C.doneSo(h, "all that fit", () -> h.pour(0, 1, 1, 0, 4));
        row(h, 1, 2, 3, 4, 5);
        C.doneSo(h, "none", () -> h.pour(0, 5, 1, 4, 0));
        row(h, 1, 2, 3, 4, 5);
    }

    private static void pourOntoItself() {
        WindowHill h = poured();
        C.doneSo(h, "up", () -> h.pour(0, 0, 0, 1, 4));
        row(h, 0, 1, 1, 2, 3, 4);
        C.doneSo(h, "down", () -> h.pour(0, 1, 0, 0, 4));
        row(h, 0, 1, 2, 3, 4, 4);
    }

    private static void pourWrong() {
        WindowHill h = poured();
        h.tray(2, 0, 5);
        int big = Integer.MAX_VALUE;
        int[][] wrong = {{1, -1, 0, 1, 0, 1}, {1, 4, 0, 1, 0, 1}, {1, 0, 0, -1, 0, 1}, {1, 0, 0, 4, 0, 1},
            {1, 3, -1, 3, 0, 1}, {1, 3, 0, 3, -1, 1}, {1, 0, 0, 2, 0, -1}, {2, 3, 9, 2, 9, 9}, {2, 0, 0, 3, 0, 0},
            {8, 0, 9, 2, 9, 9}, {8, 0, 0, 2, 0, 0}, {3, 0, 5, 1, 0, 1}, {3, 0, 0, 1, 4, 1}, {3, 0, 6, 1, 0, 0},
            {3, 0, 0, 1, 5, 0}, {3, 0, 0, 1, 0, 5}, {3, 0, 0, 1, 0, 61}, {3, 0, big, 1, 0, big}, {3, 0, 1, 1, 1, big}};
        for (int[] w : wrong) {
            C.denied(h, w[0], "pour " + w[1] + " " + w[2] + " " + w[3] + " " + w[4] + " " + w[5],
                () -> h.pour(w[1], w[2], w[3], w[4], w[5]));
        }
    }

    private static void feed() {
        WindowHill h = new WindowHill();
        for (int many = 20; many <= 900; many += 20) {
            C.due("feed", h.feed(0x20202020, 0x20202020, 0x0a0a0a0a, 0x20202020, 0x20202020), many);
        }
        C.due("one too many", h.feed(0x20202020, 0, 0, 0, 0), -1);
        C.due("900 are there", h.town(900), -1);
        C.due("9", h.status(), 9);
        C.due("blanks alone", h.fault(1), 900);
        // the highest byte of each first: "wide 1;row d;rule a;"
        C.due("feed", h.feed(0x77696465, 0x20313b72, 0x6f772064, 0x3b72756c, 0x6520613b), 20);
        C.due("town", h.town(20), 1);
        C.due("RULES", h.told(5), 1);
        C.due("bytes above 127", h.feed(-1, -1, -1, -1, -1), 20);
        C.due("town", h.town(1), -1);
        C.due("FAULT 1", h.fault(0), 1);
    }
}
