/** Promises 18 to 32: what is done by hand, and nights. */
public final class NightTests {
    private static final Checks C = new Checks();
    private static final String MIXED = "wide 3;row dln;row wxd;rule a born 1;";
    /** What is lit stays, and all around it is lit the next night. */
    private static final String SPREAD = "rule spread born 1 2 3 4 stays 0 1 2 3 4;";
    private static final String MIDDLE = "wide 3;row ddd;row dld;row ddd;" + SPREAD;
    private static final String FLIP = "wide 1;row d;rule a born 0;";
    private static final String LARGE = "wide 5;row ddddd;row ddddd;row ddddd;row ddddd;row ddddd;row ddddd;rule a;";

    public static void main(String[] args) {
        C.test("18 turn", NightTests::turn);
        C.test("18 turn, wrong", NightTests::turnWrong);
        C.test("19 paint", NightTests::paint);
        C.test("20 paintRows", NightTests::paintRows);
        C.test("20 paintRows, wrong", NightTests::paintRowsWrong);
        C.test("21 copyRows", NightTests::copyRows);
        C.test("22 mayor", NightTests::mayor);
        C.test("23 bend", NightTests::bend);
        C.test("24 night", NightTests::night);
        C.test("24 night, STUCK lamps, gaps, a ring", NightTests::nightOddTowns);
        C.test("24 night, without RULES", NightTests::nightWithoutRules);
        C.test("24 night, many", NightTests::manyNights);
        C.test("25 ahead", NightTests::ahead);
        C.test("26 again", NightTests::again);
        C.test("26, 27 nothing comes again in 2,000", NightTests::notAgain);
        C.test("27 far", NightTests::far);
        C.test("28 walks", NightTests::walks);
        C.test("28 walks, in 60 alone", NightTests::walksInSixty);
        C.test("28 walks, none", NightTests::walksNone);
        C.test("29 still", NightTests::still);
        C.test("30 next", NightTests::next);
        C.test("31 oil", NightTests::oil);
        C.test("32 brightest", NightTests::brightest);
        C.end();
    }

    private static WindowHill bent(String town, int born, int stays, int picture) {
        WindowHill h = Checks.hill(town);
        h.bend(0, born, stays);
        h.paint(picture);
        return h;
    }

    private static void turn() {
        WindowHill h = Checks.hill(MIXED);
        C.done(h, "turn", () -> h.turn(0, 0), 1);
        C.due("picture", h.picture(), 1 + 2 + 8);
        C.done(h, "turn back", () -> h.turn(0, 0), 0);
        C.done(h, "turn", () -> h.turn(1, 0), 0);
        C.done(h, "turn", () -> h.turn(2, 1), 1);
        C.due("picture", h.picture(), 8 + 32);
        C.due("no NIGHT", h.told(7), 0);
    }

    private static void turnWrong() {
        WindowHill h = Checks.hill(MIXED);
        int[][] wrong = {{1, -1, 0}, {1, 3, 0}, {1, 0, -1}, {1, 0, 2}, {7, 2, 0}, {7, 0, 1}, {7, 1, 1}, {1, 3, 1}};
        for (int[] w : wrong) {
            C.refused(h, w[0], "turn " + w[1] + " " + w[2], () -> h.turn(w[1], w[2]));
        }
    }

    private static void paint() {
        WindowHill h = Checks.hill(MIXED);
        C.done(h, "none", () -> h.paint(0), 1);
        C.due("picture", h.picture(), 8);
        C.done(h, "all", () -> h.paint(1073741823), 4);
        C.due("picture", h.picture(), 1 + 2 + 8 + 32);
        C.done(h, "one, and others", () -> h.paint(4 + 16 + 32 + 64), 2);
        C.due("picture", h.picture(), 8 + 32);
        for (long wrong : new long[] {-1, 1073741824, 1L << 32, Long.MIN_VALUE, Long.MAX_VALUE}) {
            C.refused(h, 1, "paint " + wrong, () -> h.paint(wrong));
        }
    }

    private static WindowHill traysOf(String town, int sort, long... numbers) {
        WindowHill h = Checks.hill(town);
        h.tray(1, sort, numbers.length);
        for (int k = 0; k < numbers.length; k++) {
            h.write(1, k, numbers[k]);
        }
        return h;
    }

    private static void paintRows() {
        WindowHill h = traysOf(MIXED, 0, 1, 4);
        C.done(h, "paintRows", () -> h.paintRows(1), 3);
        C.due("picture", h.picture(), 1 + 8 + 32);
        WindowHill zero = traysOf(MIXED, 2, 0, 0);
        C.done(zero, "0", () -> zero.paintRows(1), 1);
        C.due("picture", zero.picture(), 8);
        WindowHill more = traysOf(MIXED, 3, 31, 24, -1);
        C.done(more, "beyond the WIDTH, and a row more", () -> more.paintRows(1), 3);
        C.due("picture", more.picture(), 1 + 2 + 8);
        WindowHill large = traysOf(LARGE, 1, 1, 2, 4, 8, 16, 31);
        C.done(large, "large", () -> large.paintRows(1), 10);
        C.due("picture", large.picture(), 1 + (2 << 5) + (4 << 10) + (8 << 15) + (16 << 20) + (31 << 25));
    }

    private static void paintRowsWrong() {
        WindowHill h = traysOf(MIXED, 3, 7, 32);
        C.refused(h, 1, "-1", () -> h.paintRows(-1));
        C.refused(h, 1, "4", () -> h.paintRows(4));
        C.refused(h, 2, "missing", () -> h.paintRows(0));
        C.refused(h, 5, "32", () -> h.paintRows(1));
        h.write(1, 1, -1);
        C.refused(h, 5, "-1", () -> h.paintRows(1));
        h.write(1, 1, 1L << 32);
        C.refused(h, 5, "cut it would be 0", () -> h.paintRows(1));
        h.tray(1, 3, 1);
        h.write(1, 0, 99);
        C.refused(h, 3, "too few, ahead of 5", () -> h.paintRows(1));
        h.tray(1, 3, 0);
        C.refused(h, 3, "none", () -> h.paintRows(1));
    }

    private static void copyRows() {
        WindowHill h = traysOf(MIXED, 0, 50, 51, 52);
        C.done(h, "copyRows", () -> h.copyRows(1), 2);
        C.due("row 0", h.read(1, 0), 2);
        C.due("row 1", h.read(1, 1), 1);
        C.due("the place behind", h.read(1, 2), 52);
        C.refused(h, 1, "-1", () -> h.copyRows(-1));
        C.refused(h, 1, "4", () -> h.copyRows(4));
        C.refused(h, 2, "missing", () -> h.copyRows(3));
        h.tray(1, 0, 1);
        C.refused(h, 3, "too few", () -> h.copyRows(1));
        WindowHill large = bent(LARGE, 0, 0, (1 << 30) - 1);
        large.tray(0, 0, 6);
        C.done(large, "large", () -> large.copyRows(0), 6);
        C.due("row 5", large.read(0, 5), 31);
    }

    private static void mayor() {
        WindowHill h = Checks.hill("wide 1;row d;rule a;rule b born 0;");
        C.due("dark", h.ahead(1), 0);
        C.doneSo(h, "mayor", () -> h.mayor(1));
        C.due("told", h.told(10), 1);
        C.due("lit", h.ahead(1), 1);
        C.doneSo(h, "mayor", () -> h.mayor(0));
        C.denied(h, 1, "-1", () -> h.mayor(-1));
        C.denied(h, 1, "2", () -> h.mayor(2));
        WindowHill none = Checks.hill("wide 1;row d;");
        C.denied(none, 1, "no RULES", () -> none.mayor(0));
    }

    private static void bend() {
        WindowHill h = Checks.hill("wide 1;row d;rule a;rule b born 0;");
        C.doneSo(h, "bend", () -> h.bend(0, 1, 31));
        C.due("born", h.rule(0, 0), 1);
        C.due("stays", h.rule(0, 1), 31);
        C.due("the other", h.rule(1, 1), 0);
        C.due("it counts at once", h.night(1), 1);
        int[][] wrong = {{-1, 0, 0}, {2, 0, 0}, {0, -1, 0}, {0, 32, 0}, {0, 0, -1}, {0, 0, 32}};
        for (int[] w : wrong) {
            C.denied(h, 1, "bend", () -> h.bend(w[0], w[1], w[2]));
        }
    }

    private static void night() {
        WindowHill h = Checks.hill(MIDDLE);
        C.done(h, "night", () -> h.night(1), 5);
        C.due("picture", h.picture(), 2 + 8 + 16 + 32 + 128);
        C.due("NIGHT", h.told(7), 1);
        C.due("OIL", h.told(8), 1);
        C.done(h, "two", () -> h.night(2), 9);
        C.due("NIGHT", h.told(7), 3);
        C.due("OIL", h.told(8), 15);
        C.refused(h, 1, "0", () -> h.night(0));
        C.refused(h, 1, "-1", () -> h.night(-1));
        C.refused(h, 1, "1000", () -> h.night(1000));
    }

    private static void nightOddTowns() {
        WindowHill h = Checks.hill("wide 5;row dwdnd;row xdddl;" + SPREAD);
        C.due("night", h.night(1), 7);
        C.due("picture", h.picture(), 1 + 2 + 4 + 16 + (2 + 8 + 16 << 5));
        WindowHill ring = Checks.hill("wide 4 ring;row lddd;" + SPREAD);
        C.due("ring", ring.night(1), 3);
        C.due("picture", ring.picture(), 1 + 2 + 8);
        WindowHill two = Checks.hill("wide 2 ring;row ld;rule a born 2;rule b born 1;");
        C.due("a RING of 2 counts one once", two.night(1), 0);
        WindowHill other = Checks.hill("wide 3;row ddl;row wdd;row xll;rule a born 2 stays 1;");
        // (1,1): left w, below l; (0,0): below w alone; (2,1): above l, below l
        C.due("by all what showed at once", other.night(1), 5);
        C.due("picture", other.picture(), 8 + 16 + 32 + 128 + 256);
    }

    private static void nightWithoutRules() {
        WindowHill h = Checks.hill("wide 3;row lwd;row xll;");
        C.due("all go dark but w", h.night(1), 1);
        C.due("picture", h.picture(), 2);
        C.due("OIL", h.told(8), 4);
        C.due("SEEN", h.seen(1, 1), 1);
        C.due("NIGHT", h.told(7), 1);
        WindowHill stuck = Checks.hill("wide 2;row wx;");
        stuck.night(1);
        C.due("not of STUCK ones", stuck.rulesLeft(), 1024);
    }

    private static void manyNights() {
        WindowHill h = Checks.hill(FLIP);
        C.due("999", h.night(999), 1);
        C.due("OIL", h.told(8), 499);
        C.due("999 more", h.night(999), 0);
        C.due("OIL", h.told(8), 999);
        C.due("NIGHT", h.told(7), 1998);
        WindowHill one = bent(LARGE, 29, 2, 458064498);
        WindowHill other = bent(LARGE, 29, 2, 458064498);
        for (int night = 0; night < 400; night++) {
            one.night(1);
        }
        other.night(400);
        C.due("one by one", Checks.all(one).equals(Checks.all(other)), true);
    }

    private static void ahead() {
        WindowHill h = Checks.hill(MIDDLE);
        C.asked(h, "0", () -> h.ahead(0), 16);
        C.asked(h, "1", () -> h.ahead(1), 186);
        C.asked(h, "2", () -> h.ahead(2), 511);
        C.asked(h, "999", () -> h.ahead(999), 511);
        C.refused(h, 1, "-1", () -> h.ahead(-1));
        C.refused(h, 1, "1000", () -> h.ahead(1000));
        WindowHill flip = Checks.hill(FLIP);
        C.asked(flip, "998", () -> flip.ahead(998), 0);
        C.asked(flip, "999", () -> flip.ahead(999), 1);
        WindowHill large = bent(LARGE, 29, 2, 458064498);
        long far = large.ahead(777);
        large.night(777);
        C.due("as by nights", large.picture(), far);
    }

    private static void again() {
        WindowHill h = Checks.hill(MIDDLE);
        C.asked(h, "LEAD", () -> h.again(0), 2);
        C.asked(h, "ROUND", () -> h.again(1), 1);
        WindowHill flip = Checks.hill(FLIP);
        C.asked(flip, "LEAD", () -> flip.again(0), 0);
        C.asked(flip, "ROUND", () -> flip.again(1), 2);
        C.refused(h, 1, "-1", () -> h.again(-1));
        C.refused(h, 1, "2", () -> h.again(2));
    }

    /** Its picture of night 2,201 comes again at 2,208. */
    private static void notAgain() {
        WindowHill h = bent(LARGE, 29, 2, 458064498);
        h.night(207);
        C.refused(h, 7, "2,001 LEAD", () -> h.again(0));
        C.refused(h, 7, "2,001 ROUND", () -> h.again(1));
        C.refused(h, 7, "far", () -> h.far(5000));
        C.refused(h, 7, "far, though near", () -> h.far(0));
        C.refused(h, 1, "1 ahead of 7", () -> h.again(2));
        C.refused(h, 1, "1 ahead of 7", () -> h.far(-1));
        h.night(1);
        C.asked(h, "LEAD", () -> h.again(0), 1993);
        C.asked(h, "ROUND", () -> h.again(1), 7);
        long far = h.far(999999999);
        h.night(999);
        h.night(994);
        C.due("1,993 and whole rounds", h.picture(), far);
        C.due("LEAD", h.again(0), 0);
        WindowHill round = bent(LARGE, 21, 0, 884239031);
        round.night(79);
        C.refused(round, 7, "2,001", () -> round.again(0));
        round.night(1);
        C.asked(round, "LEAD", () -> round.again(0), 428);
        C.asked(round, "ROUND", () -> round.again(1), 1572);
        WindowHill ring = bent(LARGE.replace("5;", "5 ring;"), 22, 24, 365804757);
        ring.night(72);
        C.refused(ring, 7, "a round of 2,275 from now on", () -> ring.again(1));
        C.refused(ring, 7, "far", () -> ring.far(3));
        WindowHill late = bent(LARGE, 26, 9, 348915637);
        C.refused(late, 7, "a round of 96 from 7,753 on", () -> late.again(1));
    }

    private static void far() {
        WindowHill h = Checks.hill(MIDDLE);
        C.asked(h, "0", () -> h.far(0), 16);
        C.asked(h, "1", () -> h.far(1), 186);
        C.asked(h, "2", () -> h.far(2), 511);
        C.asked(h, "999999999", () -> h.far(999999999), 511);
        WindowHill flip = Checks.hill(FLIP);
        C.asked(flip, "999999998", () -> flip.far(999999998), 0);
        C.asked(flip, "999999999", () -> flip.far(999999999), 1);
        C.refused(h, 1, "-1", () -> h.far(-1));
        C.refused(h, 1, "1000000000", () -> h.far(1000000000));
    }

    private static void walk(WindowHill h, int night, int x, int y) {
        C.asked(h, "NIGHT", () -> h.walks(0), night);
        C.asked(h, "x", () -> h.walks(1), x);
        C.asked(h, "y", () -> h.walks(2), y);
    }

    private static void walks() {
        walk(Checks.hill("wide 2;row ld;rule a born 1;"), 1, 1, 0);
        walk(Checks.hill("wide 2;row dl;rule a born 1;"), 1, -1, 0);
        walk(Checks.hill("wide 1;row d;row l;rule a born 1;"), 1, 0, -1);
        walk(Checks.hill("wide 1;row l;rule a born 0;"), 2, 0, 0);
        walk(Checks.hill("wide 1;row l;rule a stays 0;"), 1, 0, 0);
        walk(Checks.hill("wide 3;row xwx;"), 1, 0, 0);
        walk(bent("wide 5;row ddddd;row ddddd;row dddxd;row ddddd;rule a;", 18, 5, 16384), 12, -4, -2);
        walk(bent("wide 5;row ddddd;row ddddd;row dnddd;row ddddd;rule a;", 2, 0, 4), 7, 2, 3);
        walk(bent("wide 2;row dd;row dd;row dx;row dd;row dd;row dd;rule a;", 26, 25, 4), 4, 0, 4);
        walk(bent("wide 1;row d;row d;row d;row d;row d;row d;rule a;", 26, 13, 16), 4, 0, -4);
    }

    private static void walksInSixty() {
        String ring = "wide 5 ring;row ddwdd;row dxddd;row ddddd;row ddddd;row ddddd;rule a;";
        walk(bent(ring, 25, 3, 23288069), 60, 0, 0);
        WindowHill late = bent("wide 5 ring;row dddnd;row ddddd;row dnddd;row ddddd;rule a;", 3, 4, 13251);
        C.asked(late, "LEAD", () -> late.again(0), 0);
        C.asked(late, "ROUND", () -> late.again(1), 61);
        C.refused(late, 6, "61", () -> late.walks(0));
    }

    private static void walksNone() {
        WindowHill dark = Checks.hill("wide 1;row d;rule a;");
        C.refused(dark, 6, "none is lit", () -> dark.walks(0));
        WindowHill dying = Checks.hill("wide 1;row l;rule a;");
        C.refused(dying, 6, "goes dark", () -> dying.walks(2));
        WindowHill spread = Checks.hill(MIDDLE);
        C.refused(spread, 6, "grows", () -> spread.walks(1));
        C.refused(spread, 1, "-1", () -> spread.walks(-1));
        C.refused(spread, 1, "3", () -> spread.walks(3));
        // moved by one to the right it would be this picture, but the last lamp is not on a PLACE
        WindowHill edge = Checks.hill("wide 3;row ddl;row ldd;row ddd;rule a born 1 2;");
        C.refused(edge, 6, "beyond the edge", () -> edge.walks(0));
    }

    private static void still() {
        WindowHill h = Checks.hill(MIDDLE);
        C.asked(h, "grows", h::still, 0);
        h.night(2);
        C.asked(h, "all lit", h::still, 1);
        WindowHill alone = Checks.hill("wide 2;row wx;");
        C.asked(alone, "STUCK", alone::still, 1);
        WindowHill none = Checks.hill("wide 2;row wl;");
        C.asked(none, "goes dark", none::still, 0);
    }

    private static void next() {
        WindowHill h = Checks.hill(MIDDLE);
        C.asked(h, "newly lit", () -> h.next(0), 4);
        C.asked(h, "go dark", () -> h.next(1), 0);
        C.asked(h, "stay lit", () -> h.next(2), 1);
        WindowHill mixed = Checks.hill("wide 5;row lwddl;rule a born 1 stays 0;");
        C.asked(mixed, "newly lit", () -> mixed.next(0), 2);
        C.asked(mixed, "go dark", () -> mixed.next(1), 1);
        C.asked(mixed, "stay lit", () -> mixed.next(2), 2);
        C.refused(h, 1, "-1", () -> h.next(-1));
        C.refused(h, 1, "3", () -> h.next(3));
    }

    private static void oil() {
        WindowHill h = Checks.hill(MIDDLE);
        int[][] due = {{0, 0}, {1, 1}, {5, 1}, {6, 2}, {14, 2}, {15, 3}, {8978, 998}, {8979, 999}, {9999, 999}};
        for (int[] d : due) {
            C.asked(h, "oil " + d[0], () -> h.oil(d[0]), d[1]);
        }
        C.refused(h, 1, "-1", () -> h.oil(-1));
        C.refused(h, 1, "10000", () -> h.oil(10000));
        WindowHill dark = Checks.hill("wide 1;row d;");
        C.asked(dark, "dark", () -> dark.oil(0), 999);
    }

    private static void brightest() {
        WindowHill h = Checks.hill(MIDDLE);
        C.asked(h, "this one", () -> h.brightest(0), 1);
        C.asked(h, "1", () -> h.brightest(1), 5);
        C.asked(h, "2", () -> h.brightest(2), 9);
        C.asked(h, "999", () -> h.brightest(999), 9);
        WindowHill dying = Checks.hill("wide 3;row lll;rule a stays 2;");
        C.asked(dying, "goes dark", () -> dying.brightest(999), 3);
        C.refused(h, 1, "-1", () -> h.brightest(-1));
        C.refused(h, 1, "1000", () -> h.brightest(1000));
    }
}
