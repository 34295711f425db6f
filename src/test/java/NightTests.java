/** Promises 18 to 32: what is done by hand, and nights. */
public final class NightTests {
    private static final Checks C = new Checks();
    private static final Rows R = new Rows(C);
    private static final String MAX = Rows.MAX;
    private static final String MIN = Rows.MIN;
    private static final String MIXED = "town: wide 3;row dln;row wxd;rule a born 1;";
    private static final String SPREAD = Rows.SPREAD;
    private static final String MIDDLE = "wide 3;row ddd;row dld;row ddd;" + SPREAD;
    private static final String FLIP = "wide 1;row d;rule a born 0;";
    private static final String LARGE = "wide 5;row ddddd;row ddddd;row ddddd;row ddddd;row ddddd;row ddddd;rule a;";
    private static final String COLUMN = "wide 1;row d;row d;row d;row d;row d;row d;rule a;";

    public static void main(String[] args) {
        turn();
        paint();
        paintRows();
        paintRowsRefused();
        copyRows();
        mayor();
        bend();
        night();
        C.test("24 night, STUCK lamps, gaps, a ring", NightTests::nightOddTowns);
        C.test("24 night, without RULES", NightTests::nightWithoutRules);
        C.test("24 night, many", NightTests::manyNights);
        ahead();
        C.test("25 ahead, as by nights", NightTests::aheadAsByNights);
        again();
        againInTwoThousand();
        C.test("27 far, as by nights", NightTests::farAsByNights);
        far();
        walks();
        walksFar();
        walksInSixty();
        walksRefused();
        still();
        next();
        oil();
        brightest();
        C.end();
    }

    /** A TOWN whose first RULE is bent, and a PICTURE. */
    private static String[] bent(String town, int born, int stays, int picture) {
        return new String[] {"town: " + town, "bend 0 " + born + " " + stays, "paint " + picture};
    }

    private static void turn() {
        R.on(MIXED);
        R.gives("lit then", "turn 0 0", 1, "picture = 11", "told 7 = 0", "told 8 = 0");
        R.gives("dark then", "turn 1 0", 0, "picture = 8");
        R.gives("twice", "turn 0 0", 1, "turn 0 0 = 0", "picture = 10");
        R.gives("the last PLACE", "turn 2 1", 1, "picture = 42");
        R.on(Rows.TAPED);
        R.refuses("x below 0", 1, "turn -1 0");
        R.refuses("x below 0 of a later ROW", 1, "turn -1 1");
        R.refuses("x is WIDE", 1, "turn 3 0");
        R.refuses("y below 0", 1, "turn 0 -1");
        R.refuses("y is ROWS", 1, "turn 0 2");
        R.refuses("the largest", 1, "turn" + MAX + MAX);
        R.refuses("the least", 1, "turn" + MIN + MIN);
        R.refuses("no house", 7, "turn 2 0");
        R.refuses("always lit", 7, "turn 0 1");
        R.refuses("always dark", 7, "turn 1 1");
        R.on(bent(LARGE, 0, 0, 0));
        R.gives("the last PLACE of all", "turn 4 5", 1, "picture = " + (1 << 29));
    }

    private static void paint() {
        R.on(MIXED);
        R.gives("none: STUCK ones stay", "paint 0", 1, "picture = 8");
        R.gives("as much as can be: STUCK ones, gaps stay", "paint 1073741823", 4, "picture = 43");
        R.gives("one, and others that don't matter", "paint 116", 2, "picture = 40");
        R.on(Rows.TAPED);
        R.refuses("below 0", 1, "paint -1");
        R.refuses("above 1,073,741,823", 1, "paint 1073741824");
        R.refuses("it would be 0 if it were cut", 1, "paint 4294967296");
        R.refuses("it would be 1 if it were cut", 1, "paint -4294967295");
        R.refuses("the largest", 1, "paint " + Long.MAX_VALUE);
        R.refuses("the least", 1, "paint " + Long.MIN_VALUE);
        R.on("town: " + LARGE);
        R.gives("all 30", "paint 1073741823", 30, "picture = 1073741823");
    }

    private static void paintRows() {
        R.on(MIXED, "tray 1 0 2", "write 1 0 1", "write 1 1 4");
        R.gives("each ROW as a number", "paintRows 1", 3, "picture = 41", "read 1 1 = 4");
        R.on(MIXED, "tray 0 2 2");
        R.gives("0", "paintRows 0", 1, "picture = 8");
        R.on(MIXED, "tray 3 0 2", "write 3 0 31", "write 3 1 31");
        R.gives("31, though it is 3 WIDE", "paintRows 3", 4, "picture = 43");
        R.on(MIXED, "tray 2 3 2", "write 2 0 24", "write 2 1 25");
        R.gives("what is beyond WIDE does not matter", "paintRows 2", 1, "picture = 8");
        R.on(MIXED, "tray 2 3 3", "write 2 0 1", "write 2 2 -1");
        R.gives("a number more than ROWS does not matter", "paintRows 2", 2, "picture = 9");
        R.on("town: " + LARGE, "tray 1 1 6", "write 1 0 1", "write 1 1 2", "write 1 2 4", "write 1 3 8", "write 1 4 16",
            "write 1 5 31");
        R.gives("six ROWS", "paintRows 1", 10,
            "picture = " + (1 + (2 << 5) + (4 << 10) + (8 << 15) + (16 << 20) + (31 << 25)));
    }

    private static void paintRowsRefused() {
        String[] town = Rows.TAPED;
        R.on(town);
        R.refuses("below the first TRAY", 1, "paintRows -1");
        R.refuses("behind the last TRAY", 1, "paintRows 4");
        R.refuses("the largest TRAY", 1, "paintRows" + MAX);
        R.refuses("MISSING", 2, "paintRows 3");
        R.on(Rows.and(town, "tray 3 3 2", "write 3 0 7", "write 3 1 32"));
        R.refuses("32", 5, "paintRows 3");
        R.on(Rows.and(town, "tray 3 3 2", "write 3 0 32"));
        R.refuses("32 in the first ROW", 5, "paintRows 3");
        R.on(Rows.and(town, "tray 3 3 2", "write 3 0 7", "write 3 1 -1"));
        R.refuses("-1", 5, "paintRows 3");
        R.on(Rows.and(town, "tray 3 3 2", "write 3 1 4294967296"));
        R.refuses("it would be 0 if it were cut", 5, "paintRows 3");
        R.on(Rows.and(town, "tray 3 3 2", "write 3 1 " + Long.MIN_VALUE));
        R.refuses("the least number", 5, "paintRows 3");
        R.on(Rows.and(town, "tray 3 0 2", "write 3 0 224"));
        R.refuses("224 is -32 in 8 bits", 5, "paintRows 3");
        R.on(Rows.and(town, "tray 3 3 1", "write 3 0 1"));
        R.refuses("too few numbers", 3, "paintRows 3");
        R.on(Rows.and(town, "tray 3 3 1", "write 3 0 99"));
        R.refuses("3 ahead of 5", 3, "paintRows 3");
        R.on(Rows.and(town, "tray 3 3 0"));
        R.refuses("no numbers", 3, "paintRows 3");
    }

    private static void copyRows() {
        R.on(MIXED, "tray 1 0 3", "write 1 0 50", "write 1 1 51", "write 1 2 52");
        R.gives("ROWS come, what is behind them stays", "copyRows 1", 2, "read 1 0 = 2", "read 1 1 = 1", "read 1 2 = 52",
            "picture = 10");
        R.on(MIXED, "tray 3 3 2");
        R.gives("just enough numbers", "copyRows 3", 2, "read 3 0 = 2", "read 3 1 = 1");
        R.on(Rows.and(bent(LARGE, 0, 0, (1 << 30) - 1 - 32), "tray 0 0 6"));
        R.gives("six ROWS", "copyRows 0", 6, "read 0 0 = 31", "read 0 1 = 30", "read 0 5 = 31");
        R.on(Rows.TAPED);
        R.refuses("below the first TRAY", 1, "copyRows -1");
        R.refuses("behind the last TRAY", 1, "copyRows 4");
        R.refuses("the largest TRAY", 1, "copyRows" + MAX);
        R.refuses("MISSING", 2, "copyRows 3");
        R.on(Rows.and(Rows.TAPED, "tray 3 0 1", "write 3 0 77"));
        R.refuses("too few numbers", 3, "copyRows 3");
        R.on(Rows.and(Rows.TAPED, "tray 3 0 0"));
        R.refuses("no numbers", 3, "copyRows 3");
    }

    private static void mayor() {
        R.on("town: wide 1;row d;rule a;rule b born 0;rule c;rule d born 0;");
        R.gives("another one", "mayor 1", 1, "told 10 = 1", "ahead 1 = 1", "picture = 0", "told 7 = 0");
        R.gives("the last of four", "mayor 3", 1, "told 10 = 3", "ahead 1 = 1");
        R.gives("the same", "mayor 0", 1, "told 10 = 0", "ahead 1 = 0");
        R.refuses("a fifth", 1, "mayor 4");
        R.on(Rows.TAPED);
        R.refuses("below 0", 1, "mayor -1");
        R.refuses("more than there are", 1, "mayor 2");
        R.refuses("the largest", 1, "mayor" + MAX);
        R.refuses("the least", 1, "mayor" + MIN);
        R.on("town: wide 1;row d;");
        R.refuses("no RULES", 1, "mayor 0");
    }

    private static void bend() {
        R.on("town: wide 1;row d;rule a;rule b born 0 stays 1;");
        R.gives("other sets", "bend 0 1 30", 1, "rule 0 0 = 1", "rule 0 1 = 30", "rule 1 0 = 1", "rule 1 1 = 2");
        R.gives("31", "bend 0 31 31", 1, "rule 0 0 = 31", "rule 0 1 = 31");
        R.gives("0", "bend 1 0 0", 1, "rule 1 0 = 0", "rule 1 1 = 0");
        R.gives("it counts at once", "bend 0 1 0", 1, "night 1 = 1");
        R.gives("not of the mayor's", "bend 1 31 31", 1, "told 10 = 0", "night 1 = 0");
        R.on(Rows.TAPED);
        R.refuses("a RULE below 0", 1, "bend -1 0 0");
        R.refuses("a RULE more than there are", 1, "bend 2 0 0");
        R.refuses("the largest RULE", 1, "bend" + MAX + " 0 0");
        R.refuses("BORN below 0", 1, "bend 0 -1 0");
        R.refuses("BORN above 31", 1, "bend 0 32 0");
        R.refuses("STAYS below 0", 1, "bend 0 0 -1");
        R.refuses("STAYS above 31", 1, "bend 0 0 32");
        R.on("town: wide 1;row d;");
        R.refuses("no RULES", 1, "bend 0 0 0");
    }

    private static void night() {
        R.on("town: " + MIDDLE);
        R.gives("one", "night 1", 5, "picture = 186", "told 7 = 1", "told 8 = 1");
        R.gives("two", "night 2", 9, "picture = 511", "told 7 = 2", "told 8 = 6");
        R.gives("three", "night 3", 9, "told 7 = 3", "told 8 = 15");
        R.gives("999", "night 999", 9, "told 7 = 999", "told 8 = " + (6 + 997 * 9));
        R.on(Rows.TAPED);
        R.refuses("0", 1, "night 0");
        R.refuses("-1", 1, "night -1");
        R.refuses("1000", 1, "night 1000");
        R.refuses("the largest", 1, "night" + MAX);
        R.refuses("the least", 1, "night" + MIN);
    }

    private static void nightOddTowns() {
        WindowHill h = Checks.hill("wide 5;row dwdnd;row xdddl;" + SPREAD);
        C.due("night", h.night(1), 7);
        C.due("picture", h.picture(), 1 + 2 + 4 + 16 + (2 + 8 + 16 << 5));
        WindowHill ring = Checks.hill("wide 4 ring;row lddd;" + SPREAD);
        C.due("ring", ring.night(1), 3);
        C.due("picture", ring.picture(), 1 + 2 + 8);
        WindowHill two = Checks.hill("wide 2 ring;row ld;rule a born 2;rule b born 1;");
        C.due("a RING of 2 counts one once", two.night(1), 0);
        WindowHill other = Checks.hill("wide 3;row ddl;row wdd;row xll;rule a born 2 stays 1;");
        // (1,1): left w, below l; (0,0): below w alone; (2,1): above l, below l
        C.due("by all what showed at once", other.night(1), 5);
        C.due("picture", other.picture(), 8 + 16 + 32 + 128 + 256);
        WindowHill always = Checks.hill("wide 5;row wldlw;row xndwx;rule a;");
        C.due("several that are always lit", always.night(1), 3);
        C.due("picture", always.picture(), 1 + 16 + (8 << 5));
    }

    private static void nightWithoutRules() {
        WindowHill h = Checks.hill("wide 3;row lwd;row xll;");
        C.due("all go dark but w", h.night(1), 1);
        C.due("picture", h.picture(), 2);
        C.due("OIL", h.told(8), 4);
        C.due("SEEN", h.seen(1, 1), 1);
        C.due("NIGHT", h.told(7), 1);
        WindowHill stuck = Checks.hill("wide 2;row wx;");
        stuck.night(1);
        C.due("not of STUCK ones", stuck.rulesLeft(), 1024);
    }

    private static void manyNights() {
        WindowHill h = Checks.hill(FLIP);
        C.due("999", h.night(999), 1);
        C.due("OIL", h.told(8), 499);
        C.due("999 more", h.night(999), 0);
        C.due("OIL", h.told(8), 999);
        C.due("NIGHT", h.told(7), 1998);
        WindowHill one = Rows.made(bent(LARGE, 29, 2, 458064498));
        WindowHill other = Rows.made(bent(LARGE, 29, 2, 458064498));
        for (int night = 0; night < 400; night++) {
            one.night(1);
        }
        other.night(400);
        C.due("one by one", Checks.all(one).equals(Checks.all(other)), true);
    }

    private static void ahead() {
        R.on("town: " + MIDDLE);
        R.gives("0", "ahead 0", 16);
        R.gives("1", "ahead 1", 186);
        R.gives("2", "ahead 2", 511);
        R.gives("999", "ahead 999", 511);
        R.on("town: " + FLIP);
        R.gives("998", "ahead 998", 0);
        R.gives("999", "ahead 999", 1);
        R.on("town: " + FLIP, "night 1");
        R.gives("999 from now on", "ahead 999", 0);
        R.on(Rows.TAPED);
        R.refuses("-1", 1, "ahead -1");
        R.refuses("1000", 1, "ahead 1000");
        R.refuses("the largest", 1, "ahead" + MAX);
        R.refuses("the least", 1, "ahead" + MIN);
    }

    private static void aheadAsByNights() {
        WindowHill h = Rows.made(bent(LARGE, 29, 2, 458064498));
        long far = h.ahead(777);
        h.night(777);
        C.due("as by nights", h.picture(), far);
    }

    private static void again() {
        R.on("town: " + MIDDLE);
        R.gives("LEAD", "again 0", 2);
        R.gives("ROUND", "again 1", 1);
        R.on("town: " + MIDDLE, "night 1");
        R.gives("LEAD from now on", "again 0", 1);
        R.on("town: " + FLIP);
        R.gives("no LEAD", "again 0", 0);
        R.gives("ROUND of 2", "again 1", 2);
        R.on("town: wide 1;row x;");
        R.gives("no LEAD, it stays", "again 0", 0);
        R.gives("ROUND of 1", "again 1", 1);
        R.on(Rows.TAPED);
        R.refuses("-1", 1, "again -1");
        R.refuses("2", 1, "again 2");
        R.refuses("the largest", 1, "again" + MAX);
        R.refuses("the least", 1, "again" + MIN);
    }

    /** The first PICTURE of night 2,201 comes again at 2,208. */
    private static void againInTwoThousand() {
        String[] long2208 = bent(LARGE, 29, 2, 458064498);
        R.on(Rows.and(long2208, "night 207"));
        R.refuses("LEAD and ROUND are 2,001", 7, "again 0");
        R.refuses("LEAD and ROUND are 2,001", 7, "again 1");
        R.refuses("LEAD and ROUND are 2,001", 7, "far 5000");
        R.refuses("LEAD and ROUND are 2,001, though it is near", 7, "far 0");
        R.refuses("1 ahead of 7", 1, "again 2");
        R.refuses("1 ahead of 7", 1, "far -1");
        R.on(Rows.and(long2208, "night 208"));
        R.gives("LEAD and ROUND are 2,000", "again 0", 1993);
        R.gives("LEAD and ROUND are 2,000", "again 1", 7);
        R.on(Rows.and(long2208, "night 999", "night 999", "night 203"));
        R.gives("the first PICTURE that comes again", "again 0", 0);
        R.on(Rows.and(bent(LARGE, 21, 0, 884239031), "night 79"));
        R.refuses("a long ROUND, 2,001", 7, "again 0");
        R.on(Rows.and(bent(LARGE, 21, 0, 884239031), "night 80"));
        R.gives("a long ROUND, 2,000", "again 0", 428);
        R.gives("a long ROUND, 2,000", "again 1", 1572);
        R.on(Rows.and(bent(LARGE.replace("5;", "5 ring;"), 22, 24, 365804757), "night 72"));
        R.refuses("a ROUND of 2,275 from now on", 7, "again 1");
        R.refuses("a ROUND of 2,275 from now on", 7, "far 3");
        R.on(bent(LARGE, 26, 9, 348915637));
        R.refuses("a ROUND of 96 from 7,753 on", 7, "again 1");
    }

    private static void farAsByNights() {
        WindowHill h = Rows.made(bent(LARGE, 29, 2, 458064498));
        h.night(208);
        long far = h.far(999999999);
        h.night(999);
        h.night(994);
        // 999,999,999 is 1,993 and 142,856,858 ROUNDS of 7
        C.due("1,993 and whole rounds", h.picture(), far);
    }

    private static void far() {
        R.on("town: " + MIDDLE);
        R.gives("0", "far 0", 16);
        R.gives("1", "far 1", 186);
        R.gives("2", "far 2", 511);
        R.gives("999,999,999", "far 999999999", 511);
        R.on("town: " + FLIP);
        R.gives("999,999,998", "far 999999998", 0);
        R.gives("999,999,999 goes round", "far 999999999", 1);
        R.on(Rows.TAPED);
        R.refuses("-1", 1, "far -1");
        R.refuses("1,000,000,000", 1, "far 1000000000");
        R.refuses("the largest", 1, "far" + MAX);
        R.refuses("the least", 1, "far" + MIN);
    }

    private static void walk(String why, int night, int x, int y) {
        R.gives(why + ": the NIGHT", "walks 0", night);
        R.gives(why + ": x", "walks 1", x);
        R.gives(why + ": y", "walks 2", y);
    }

    private static void walks() {
        R.on("town: wide 2;row ld;rule a born 1;");
        walk("to the right", 1, 1, 0);
        R.on("town: wide 2;row dl;rule a born 1;");
        walk("to the left", 1, -1, 0);
        R.on("town: wide 1;row d;row l;rule a born 1;");
        walk("up", 1, 0, -1);
        R.on("town: wide 1;row l;row d;rule a born 1;");
        walk("down", 1, 0, 1);
        R.on("town: wide 1;row l;rule a born 0;");
        walk("comes again", 2, 0, 0);
        R.on("town: wide 1;row l;rule a stays 0;");
        walk("stays", 1, 0, 0);
        R.on("town: wide 3;row xwx;");
        walk("STUCK", 1, 0, 0);
    }

    private static void walksFar() {
        R.on(bent("wide 5;row ddddd;row ddddd;row dddxd;row ddddd;rule a;", 18, 5, 16384));
        walk("4 to the left", 12, -4, -2);
        R.on(bent("wide 5;row ddddd;row ddddd;row dnddd;row ddddd;rule a;", 2, 0, 4));
        walk("right and down", 7, 2, 3);
        R.on(bent("wide 2;row dd;row dd;row dx;row dd;row dd;row dd;rule a;", 26, 25, 4));
        walk("4 down", 4, 0, 4);
        R.on(bent(COLUMN, 26, 13, 16));
        walk("4 up", 4, 0, -4);
        R.on(bent("wide 5;row ddxdd;row ddddd;rule a;", 17, 4, 1));
        walk("4 to the right", 3, 4, 0);
        R.on(bent("wide 5 ring;row dddxd;row ddddd;rule a;", 2, 10, 16));
        walk("4 to the left, 1 down", 5, -4, 1);
        R.on(bent("wide 2;row dd;row dd;row dd;row dd;row dd;row dd;rule a;", 6, 1, 1));
        walk("5 down", 6, 1, 5);
        R.on(bent("wide 2;row dd;row dd;row dd;row dd;row dd;row dd;rule a;", 6, 17, 2048));
        walk("5 up", 6, -1, -5);
        // of a ring: both others become lit, both ends go dark; moved round the RING it would be this one
        R.on("town: wide 4 ring;row lddl;rule a born 1;");
        walk("not round the RING", 2, 0, 0);
    }

    private static void walksInSixty() {
        R.on(bent("wide 5 ring;row ddwdd;row dxddd;row ddddd;row ddddd;row ddddd;rule a;", 25, 3, 23288069));
        walk("comes again in 60", 60, 0, 0);
        R.on(bent("wide 5 ring;row dddnd;row ddddd;row dnddd;row ddddd;rule a;", 3, 4, 13251));
        R.gives("it comes again", "again 0", 0);
        R.gives("in 61", "again 1", 61);
        R.refuses("61", 6, "walks 0");
        R.refuses("61", 6, "walks 1");
        R.refuses("61", 6, "walks 2");
    }

    private static void walksRefused() {
        R.on("town: wide 1;row d;rule a;");
        R.refuses("no lamp is lit", 6, "walks 0");
        R.refuses("1 ahead of 6", 1, "walks 3");
        R.on("town: wide 1;row d;rule a born 0;");
        R.refuses("no lamp is lit now", 6, "walks 0");
        R.on("town: wide 1;row l;rule a;");
        R.refuses("goes dark", 6, "walks 2");
        R.on("town: " + MIDDLE);
        R.refuses("grows", 6, "walks 1");
        // moved by one to the right it would be this picture, but the last lamp is not on a PLACE
        R.on("town: wide 3;row ddl;row ldd;row ddd;rule a born 1 2;");
        R.refuses("beyond the edge", 6, "walks 0");
        R.on(Rows.TAPED);
        R.refuses("-1", 1, "walks -1");
        R.refuses("3", 1, "walks 3");
        R.refuses("the largest", 1, "walks" + MAX);
        R.refuses("the least", 1, "walks" + MIN);
    }

    private static void still() {
        R.on("town: " + MIDDLE);
        R.gives("grows", "still", 0);
        R.on("town: " + MIDDLE, "night 2");
        R.gives("all lit", "still", 1);
        R.on("town: wide 1;row d;rule a;");
        R.gives("all dark", "still", 1);
        R.on("town: wide 2;row wx;");
        R.gives("STUCK", "still", 1);
        R.on("town: wide 2;row wl;");
        R.gives("one goes dark", "still", 0);
        R.on("town: wide 2;row nn;rule a born 0;");
        R.gives("no house", "still", 1);
    }

    private static void next() {
        R.on("town: " + MIDDLE);
        R.gives("newly lit", "next 0", 4);
        R.gives("go dark", "next 1", 0);
        R.gives("stay lit", "next 2", 1);
        R.on("town: wide 5;row lwddl;rule a born 1 stays 0;");
        R.gives("newly lit", "next 0", 2);
        R.gives("go dark", "next 1", 1);
        R.gives("stay lit, a STUCK one too", "next 2", 2);
        R.on(Rows.TAPED);
        R.refuses("-1", 1, "next -1");
        R.refuses("3", 1, "next 3");
        R.refuses("the largest", 1, "next" + MAX);
        R.refuses("the least", 1, "next" + MIN);
    }

    private static void oil() {
        R.on("town: " + MIDDLE);
        int[][] due = {{0, 0}, {1, 1}, {5, 1}, {6, 2}, {14, 2}, {15, 3}, {8978, 998}, {8979, 999}, {9999, 999}};
        for (int[] d : due) {
            R.gives("1, 5, 9, 9 .. each NIGHT", "oil " + d[0], d[1]);
        }
        R.on("town: wide 1;row d;");
        R.gives("dark, no OIL", "oil 0", 999);
        R.gives("dark, as much as can be", "oil 9999", 999);
        R.on("town: wide 5;row wwwww;row wwwww;");
        R.gives("the last drop", "oil 9980", 998);
        R.gives("one less", "oil 9979", 997);
        R.gives("as much as can be", "oil 9999", 999);
        R.gives("one less than 999 NIGHTS burn", "oil 9989", 998);
        R.on(Rows.TAPED);
        R.refuses("-1", 1, "oil -1");
        R.refuses("10000", 1, "oil 10000");
        R.refuses("the largest", 1, "oil" + MAX);
        R.refuses("the least", 1, "oil" + MIN);
    }

    private static void brightest() {
        R.on("town: " + MIDDLE);
        R.gives("this one", "brightest 0", 1);
        R.gives("1", "brightest 1", 5);
        R.gives("2", "brightest 2", 9);
        R.gives("999", "brightest 999", 9);
        R.on("town: wide 3;row lll;rule a stays 2;");
        R.gives("this one, though it goes dark", "brightest 999", 3);
        R.on(Rows.and(bent(LARGE, 6, 26, 863696554), "night 157"));
        R.gives("not yet", "brightest 998", 27);
        R.gives("all are lit in the last of 999", "brightest 999", 30);
        R.on(Rows.TAPED);
        R.refuses("-1", 1, "brightest -1");
        R.refuses("1000", 1, "brightest 1000");
        R.refuses("the largest", 1, "brightest" + MAX);
        R.refuses("the least", 1, "brightest" + MIN);
    }
}
