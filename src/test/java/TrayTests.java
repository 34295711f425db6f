/** Promises 1 to 9: a new object, STATUS, the FRACTION, TRAYS, the tape. */
public final class TrayTests {
    private static final Checks C = new Checks();
    private static final Rows R = new Rows(C);
    private static final String MAX = Rows.MAX;
    private static final String MIN = Rows.MIN;

    public static void main(String[] args) {
        newObject();
        C.test("1 objects are apart", TrayTests::objectsAreApart);
        C.test("2 status", TrayTests::status);
        C.test("2 calls that have none", TrayTests::noStatus);
        topAndBottom();
        C.test("3, 4 a refused call tells no FRACTION", TrayTests::fractionStays);
        tray();
        C.test("5 tray, anew", TrayTests::trayAnew);
        C.test("5 trays are apart", TrayTests::traysAreApart);
        write();
        writeCuts();
        writeRefused();
        read();
        pour();
        pourOntoItself();
        pourRefused();
        pourInOrder();
        C.test("9 feed up to 900", TrayTests::feed);
        C.test("9 feed, the highest byte first", TrayTests::feedHighestFirst);
        C.test("9 feed, a refused one", TrayTests::feedRefused);
        C.test("9 feed, bytes above 127", TrayTests::feedAbove);
        C.end();
    }

    private static void newObject() {
        R.on();
        R.gives("STATUS 0", "status", 0);
        R.gives("the FRACTION 0 ..", "top", 0);
        R.gives(".. by 1", "bottom", 1);
        R.gives("one house: WIDE", "told 0", 1);
        R.gives("one house: ROWS", "told 1", 1);
        R.gives("one house", "told 2", 1);
        R.gives("a dark one", "told 3", 0);
        R.gives("it is not STUCK", "told 4", 0);
        R.gives("no RULES", "told 5", 0);
        R.gives("no CITIZENS", "told 6", 0);
        R.gives("NIGHT 0", "told 7", 0);
        R.gives("no OIL burnt", "told 8", 0);
        R.gives("no RING", "told 9", 0);
        R.refuses("no mayor", 6, "told 10");
        R.gives("dark", "picture", 0);
        R.gives("dark", "lamp 0 0 0", 0);
        R.gives("no NEIGHBOURS", "lamp 0 0 1", 0);
        R.gives("it can be turned", "turn 0 0", 1, "picture = 1");
        R.gives("nothing was SEEN", "rulesLeft", 1024);
        R.refuses("no YEAR", 6, "live 0");
        R.refuses("no YEAR", 6, "mean 0 1");
        R.refuses("nothing LIVED", 6, "lived 0");
        R.refuses("no MARKS", 6, "back");
        for (int tray = 0; tray < 4; tray++) {
            R.refuses("MISSING", 2, "read " + tray + " 0");
        }
        R.refuses("an empty tape", 1, "town 1");
        C.test("1 ahead of any text", () -> {
            WindowHill h = new WindowHill();
            C.due("fault 0", h.fault(0), -1);
            C.due("fault 1", h.fault(1), -1);
            C.due("NONE", WindowHill.NONE, -1);
        });
    }

    private static void objectsAreApart() {
        WindowHill one = new WindowHill();
        WindowHill other = new WindowHill();
        one.turn(0, 0);
        one.tray(0, 0, 1);
        one.mark();
        Checks.feed(one, "wide");
        C.due("picture", other.picture(), 0);
        C.refused(other, 2, "read", () -> other.read(0, 0));
        C.refused(other, 6, "back", other::back);
        C.due("feed", other.feed(0, 0, 0, 0, 0), 20);
    }

    private static void status() {
        WindowHill h = new WindowHill();
        h.read(-1, 0);
        C.due("1", h.status(), 1);
        C.due("told again", h.status(), 1);
        h.read(0, 0);
        C.due("2", h.status(), 2);
        h.tray(0, 0, 0);
        C.due("0", h.status(), 0);
        h.read(0, 0);
        C.due("3", h.status(), 3);
        h.town(0);
        C.due("9", h.status(), 9);
        h.picture();
        C.due("0 by picture", h.status(), 0);
    }

    private static void noStatus() {
        WindowHill h = new WindowHill();
        h.read(-1, 0);
        h.status();
        C.due("status", h.status(), 1);
        h.top();
        C.due("top", h.status(), 1);
        h.bottom();
        C.due("bottom", h.status(), 1);
        for (int feeds = 0; feeds < 46; feeds++) {
            h.feed(0, 0, 0, 0, 0);
            C.due("feed", h.status(), 1);
        }
        h.fault(0);
        C.due("fault", h.status(), 1);
        h.fault(7);
        C.due("fault of another", h.status(), 1);
    }

    private static void topAndBottom() {
        R.on("town: wide 3;row lll;row ddd;");
        R.tells("4 by 3", "company", 4, 3);
        R.gives("none was told yet", "told 0", 3, "top = 0", "bottom = 1");
        R.on("town: wide 3;row lll;row ddd;", "company", "paint 1");
        R.tells("0 is 0 by 1", "company", 0, 1);
        R.on("town: wide 3;row lll;row ddd;", "company", "paint 3");
        R.tells("2 by 2 without a common divisor", "company", 1, 1);
        R.on("town: wide 4;row llld;row dddl;", "year: storm 0;");
        R.tells("a whole number is by 1", "mean 0 20", 4, 1);
    }

    private static void fractionStays() {
        WindowHill h = Checks.hill("wide 3;row lll;row ddd;");
        h.company();
        h.paint(0);
        C.denied(h, 6, "company", h::company);
        C.due("top", h.top(), 4);
        C.due("bottom", h.bottom(), 3);
    }

    private static void tray() {
        R.on();
        for (int sort = 0; sort < 4; sort++) {
            R.gives("sort " + sort, "tray 1 " + sort + " 60", 1, "read 1 0 = 0", "read 1 59 = 0", "status = 0");
        }
        R.gives("60 and no more", "tray 1 0 60", 1, "read 1 60 = -1", "status = 3");
        R.gives("one number", "tray 1 0 1", 1, "read 1 0 = 0", "status = 0", "read 1 1 = -1", "status = 3");
        R.gives("an empty one is there", "tray 2 1 0", 1, "read 2 0 = -1", "status = 3");
        R.gives("the first TRAY", "tray 0 0 1", 1, "read 0 0 = 0", "status = 0", "read 1 0 = -1", "status = 2");
        R.gives("the last TRAY", "tray 3 0 1", 1, "read 3 0 = 0", "status = 0", "read 2 0 = -1", "status = 2");
        R.on(Rows.TAPED);
        R.refuses("below the first TRAY", 1, "tray -1 0 1");
        R.refuses("behind the last TRAY", 1, "tray 4 0 1");
        R.refuses("a sort below 0", 1, "tray 0 -1 1");
        R.refuses("a sort above 3", 1, "tray 0 4 1");
        R.refuses("fewer than 0 numbers", 1, "tray 0 0 -1");
        R.refuses("61 numbers", 1, "tray 0 0 61");
        R.refuses("the least TRAY", 1, "tray" + MIN + " 0 1");
        R.refuses("the largest sort", 1, "tray 0" + MAX + " 1");
        R.refuses("the largest number", 1, "tray 0 0" + MAX);
        R.refuses("as wrong as can be", 1, "tray 4 4 61");
    }

    private static void trayAnew() {
        WindowHill h = new WindowHill();
        for (int sort = 0; sort < 4; sort++) {
            for (int tray = 0; tray < 4; tray++) {
                h.tray(tray, sort, 60);
                for (int place = 0; place < 60; place += 59) {
                    h.write(tray, place, 5);
                }
            }
            h.tray(1, sort, 60);
            C.due("the first", h.read(1, 0), 0);
            C.due("the last", h.read(1, 59), 0);
            C.due("the TRAY ahead stays", h.read(0, 59), 5);
            C.due("the TRAY behind stays", h.read(2, 0), 5);
        }
        h.tray(0, 3, 2);
        h.tray(0, 3, 60);
        C.due("longer again", h.read(0, 59), 0);
    }

    private static void traysAreApart() {
        WindowHill h = new WindowHill();
        for (int tray = 0; tray < 4; tray++) {
            h.tray(tray, tray, 60);
            h.write(tray, 0, 10 + tray);
            h.write(tray, 59, 20 + tray);
        }
        for (int tray = 0; tray < 4; tray++) {
            C.due("first of " + tray, h.read(tray, 0), 10 + tray);
            C.due("last of " + tray, h.read(tray, 59), 20 + tray);
        }
    }

    private static void write() {
        R.on("tray 0 0 60", "tray 3 3 1");
        R.gives("the first place", "write 0 0 7", 1, "read 0 0 = 7", "read 0 1 = 0");
        R.gives("the last place", "write 0 59 7", 1, "read 0 59 = 7", "read 0 58 = 0");
        R.gives("the only place of the last TRAY", "write 3 0 7", 1, "read 3 0 = 7");
    }

    private static void cut(int sort, long v, long want) {
        R.on("tray 1 " + sort + " 2");
        R.gives("cut to sort " + sort, "write 1 1 " + v, 1, "read 1 1 = " + want, "status = 0", "read 1 0 = 0");
    }

    private static void writeCuts() {
        cut(0, 127, 127);
        cut(0, 128, -128);
        cut(0, 255, -1);
        cut(0, 256, 0);
        cut(0, -128, -128);
        cut(0, -129, 127);
        cut(0, 1L << 40, 0);
        cut(1, 128, 128);
        cut(1, 32767, 32767);
        cut(1, 32768, -32768);
        cut(1, 65535, -1);
        cut(1, 65536, 0);
        cut(1, -32768, -32768);
        cut(1, -32769, 32767);
        cut(2, 32768, 32768);
        cut(2, 2147483647L, 2147483647L);
        cut(2, 2147483648L, -2147483648L);
        cut(2, 4294967295L, -1);
        cut(2, 4294967296L, 0);
        cut(2, -2147483648L, -2147483648L);
        cut(2, -2147483649L, 2147483647L);
        cut(3, 2147483648L, 2147483648L);
        cut(3, Long.MAX_VALUE, Long.MAX_VALUE);
        cut(3, Long.MIN_VALUE, Long.MIN_VALUE);
    }

    private static void writeRefused() {
        R.on(Rows.TAPED);
        R.refuses("below the first TRAY", 1, "write -1 0 1");
        R.refuses("behind the last TRAY", 1, "write 4 0 1");
        R.refuses("MISSING", 2, "write 3 0 1");
        R.refuses("below the first place", 3, "write 0 -1 1");
        R.refuses("behind the last place", 3, "write 0 5 1");
        R.refuses("the largest place", 3, "write 0" + MAX + " 1");
        R.refuses("the least place", 3, "write 0" + MIN + " 1");
        R.refuses("1 ahead of 3", 1, "write 4 -1 1");
        R.refuses("2 ahead of 3", 2, "write 3 -1 1");
    }

    private static void read() {
        R.on("tray 3 2 2", "write 3 0 -1");
        R.gives("STATUS tells NONE from -1", "read 3 0", -1);
        R.gives("the last place", "read 3 1", 0);
        R.on(Rows.TAPED);
        R.refuses("below the first TRAY", 1, "read -1 0");
        R.refuses("behind the last TRAY", 1, "read 4 0");
        R.refuses("MISSING", 2, "read 3 0");
        R.refuses("below the first place", 3, "read 0 -1");
        R.refuses("behind the last place", 3, "read 0 5");
        R.refuses("the largest place", 3, "read 0" + MAX);
        R.refuses("the least place", 3, "read 0" + MIN);
        R.refuses("1 ahead of 3", 1, "read -1 -1");
        R.refuses("2 ahead of 3", 2, "read 3 99");
    }

    /** TRAY 0: 1 2 3 4 5; TRAY 3: four 0s. */
    private static final String[] POURED = {"tray 0 1 5", "write 0 0 1", "write 0 1 2", "write 0 2 3", "write 0 3 4",
        "write 0 4 5", "tray 3 1 4"};

    private static String[] row(int tray, int... want) {
        String[] then = new String[want.length];
        for (int k = 0; k < want.length; k++) {
            then[k] = "read " + tray + " " + k + " = " + want[k];
        }
        return then;
    }

    private static void pour() {
        R.on(POURED);
        R.gives("from a place on to a place on", "pour 0 1 3 2 2", 1, row(3, 0, 0, 2, 3));
        R.gives("the other one stays", "pour 0 1 3 2 2", 1, row(0, 1, 2, 3, 4, 5));
        R.gives("up to the last place of both", "pour 0 1 3 0 4", 1, row(3, 2, 3, 4, 5));
        R.gives("from the first place", "pour 0 0 3 0 1", 1, row(3, 1, 0, 0, 0));
        R.gives("from the last TRAY to the first", "pour 3 0 0 1 4", 1, row(0, 1, 0, 0, 0, 0));
        R.gives("no numbers", "pour 0 0 3 0 0", 1, row(3, 0, 0, 0, 0));
        R.gives("no numbers, right behind the last places", "pour 0 5 3 4 0", 1, row(0, 1, 2, 3, 4, 5));
        R.on("tray 1 3 60", "tray 2 3 60", "write 1 0 -7", "write 1 59 " + Long.MIN_VALUE);
        R.gives("60 numbers, as they were", "pour 1 0 2 0 60", 1, "read 2 0 = -7", "read 2 59 = " + Long.MIN_VALUE);
        R.on("tray 1 2 0", "tray 2 2 0");
        R.gives("no numbers of an empty TRAY", "pour 1 0 2 0 0", 1);
    }

    private static void pourOntoItself() {
        R.on(POURED);
        R.gives("up", "pour 0 0 0 1 4", 1, row(0, 1, 1, 2, 3, 4));
        R.gives("down", "pour 0 1 0 0 4", 1, row(0, 2, 3, 4, 5, 5));
        R.gives("where they are", "pour 0 0 0 0 5", 1, row(0, 1, 2, 3, 4, 5));
        R.on("tray 3 3 3", "write 3 0 1", "write 3 1 2", "write 3 2 3");
        R.gives("up, another one", "pour 3 0 3 1 2", 1, row(3, 1, 1, 2));
    }

    private static void pourRefused() {
        R.on(Rows.and(Rows.TAPED, "tray 2 1 5"));
        R.refuses("from below the first TRAY", 1, "pour -1 0 1 0 1");
        R.refuses("from behind the last TRAY", 1, "pour 4 0 1 0 1");
        R.refuses("to below the first TRAY", 1, "pour 1 0 -1 0 1");
        R.refuses("to behind the last TRAY", 1, "pour 1 0 4 0 1");
        R.refuses("from a place below 0", 1, "pour 1 -1 2 0 1");
        R.refuses("to a place below 0", 1, "pour 1 0 2 -1 1");
        R.refuses("fewer than 0 numbers", 1, "pour 1 0 2 0 -1");
        R.refuses("from a MISSING one", 2, "pour 3 0 1 0 1");
        R.refuses("to a MISSING one", 2, "pour 1 0 3 0 1");
        R.refuses("nothing from a MISSING one to itself", 2, "pour 3 0 3 0 0");
        R.refuses("unlike sorts", 8, "pour 0 0 1 0 1");
        R.refuses("unlike sorts, the other way", 8, "pour 1 0 0 0 1");
        R.refuses("unlike sorts, of nothing", 8, "pour 1 0 0 0 0");
        R.refuses("a place that the one has not", 3, "pour 1 4 2 0 1");
        R.refuses("a place that the other has not", 3, "pour 2 0 1 4 1");
        R.refuses("too few numbers", 3, "pour 1 2 2 0 3");
        R.refuses("too few places", 3, "pour 2 0 1 2 3");
        R.refuses("of nothing, further behind the last place", 3, "pour 1 5 2 0 0");
        R.refuses("of nothing, further behind the last place of the other", 3, "pour 2 0 1 5 0");
        R.refuses("61 numbers", 3, "pour 1 0 2 0 61");
        R.refuses("a sum that wraps around", 3, "pour 1 1 2 0" + MAX);
        R.refuses("a sum that wraps around, at the other", 3, "pour 1 0 2 1" + MAX);
        R.refuses("the largest place", 3, "pour 1" + MAX + " 2 0 1");
        R.refuses("the largest place of the other", 3, "pour 1 0 2" + MAX + " 1");
        R.refuses("the largest of all, of nothing", 3, "pour 1" + MAX + " 2" + MAX + " 0");
    }

    private static void pourInOrder() {
        R.on(Rows.TAPED);
        R.refuses("1 ahead of 2: to MISSING", 1, "pour -1 0 3 0 1");
        R.refuses("1 ahead of 2: a place", 1, "pour 3 -1 3 0 1");
        R.refuses("1 ahead of 2: the other place", 1, "pour 3 0 3 -1 1");
        R.refuses("1 ahead of 2: how many", 1, "pour 3 0 3 0 -1");
        R.refuses("1 ahead of 8", 1, "pour 0 -1 1 0 1");
        R.refuses("1 ahead of 3", 1, "pour 0 9 2 9 -1");
        R.refuses("2 ahead of 8: from", 2, "pour 3 0 1 0 1");
        R.refuses("2 ahead of 8: to", 2, "pour 1 0 3 0 1");
        R.refuses("2 ahead of 3", 2, "pour 0 9 3 9 9");
        R.refuses("8 ahead of 3", 8, "pour 0 9 1 9 9");
    }

    private static void feed() {
        WindowHill h = new WindowHill();
        for (int many = 20; many <= 900; many += 20) {
            C.due("feed", h.feed(0x20202020, 0x20202020, 0x0a0a0a0a, 0x20202020, 0x20202020), many);
        }
        C.due("one too many", h.feed(0x20202020, 0, 0, 0, 0), -1);
        C.due("900 are there", h.town(900), -1);
        C.due("9", h.status(), 9);
        C.due("blanks alone", h.fault(1), 900);
        C.due("it is empty then", h.feed(0, 0, 0, 0, 0), 20);
    }

    private static void feedHighestFirst() {
        WindowHill h = new WindowHill();
        // "wide 1;row d;rule a;"
        C.due("feed", h.feed(0x77696465, 0x20313b72, 0x6f772064, 0x3b72756c, 0x6520613b), 20);
        C.due("town", h.town(20), 1);
        C.due("RULES", h.told(5), 1);
    }

    private static void feedRefused() {
        WindowHill h = new WindowHill();
        Checks.feed(h, "wide 1;row l;" + " ".repeat(887));
        h.told(10);
        C.due("NONE", h.feed(0x3f3f3f3f, 0, 0, 0, 0), -1);
        C.due("STATUS is the one ahead", h.status(), 6);
        C.due("901 are not there", h.town(901), -1);
        C.due("1", h.status(), 1);
        C.due("the 900 are as they were", h.town(900), 1);
    }

    private static void feedAbove() {
        WindowHill h = new WindowHill();
        C.due("feed", h.feed(-1, -1, -1, -1, -1), 20);
        C.due("town", h.town(1), -1);
        C.due("FAULT 1", h.fault(0), 1);
        C.due("its place", h.fault(1), 0);
    }
}
