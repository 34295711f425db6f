/** Promises 56 to 60: YEARS that are lived, their mean, MARKS. */
public final class YearTests {
    private static final Checks C = new Checks();
    private static final Rows R = new Rows(C);
    private static final String MAX = Rows.MAX;
    private static final String MIN = Rows.MIN;
    private static final String SPREAD = Rows.SPREAD;
    private static final String MIDDLE = "wide 3;row ddd;row dld;row ddd;";
    private static final String DARK = "wide 3;row ddd;row ddd;row ddd;";
    /** 298 STEPS. */
    private static final String LONG = "loop 99;elect;elect;elect;end;";

    public static void main(String[] args) {
        C.test("56 night, turn, mayor, elect", YearTests::plainSteps);
        turn();
        birth();
        C.test("56 birth, a MISSED one draws", YearTests::missedBirthDraws);
        storm();
        C.test("56 storm, by PLACES", YearTests::stormByPlaces);
        draws();
        when();
        C.test("56 when, its STEPS and its end", YearTests::whenInLoop);
        loop();
        stop();
        liveRefused();
        C.test("56 what it comes to stays", YearTests::liveStays);
        atMost();
        lived();
        livedRefused();
        C.test("57 lived, the latest alone", YearTests::livedAgain);
        missed();
        C.test("57 whatever came behind it", YearTests::livedStays);
        mean();
        C.test("58 mean leaves all as it is", YearTests::meanLeaves);
        meanRefused();
        mark();
        C.test("60 back", YearTests::back);
        C.test("60 back to the YEAR, the RULES", YearTests::backToAll);
        backFromEach();
        C.test("60 back to another WIDTH", YearTests::backToOther);
        C.test("60 what is not taken back", YearTests::notTakenBack);
        backRefused();
        C.end();
    }

    /** What is lived of a YEAR by a seed, from a new TOWN: how many STEPS, MISSED, NIGHTS, put out, births, left. */
    private static void lives(String why, String town, String year, int seed, int steps, int... lived) {
        R.on("town: " + town, "year: " + year);
        String[] then = new String[lived.length];
        for (int what = 0; what < lived.length; what++) {
            then[what] = "lived " + what + " = " + lived[what];
        }
        R.gives(why + ", " + year, "live " + seed, steps, then);
    }

    private static void comesTo(String why, String town, String year, int seed, long picture) {
        R.on("town: " + town, "year: " + year, "live " + seed);
        R.gives(why + ", " + year, "picture", picture);
    }

    private static void plainSteps() {
        WindowHill h = Checks.hill(MIDDLE + SPREAD + "rule none;citizen a likes 0 to 0;",
            "night 1;turn 0 0;mayor none;night 2;mayor spread;turn 2 2;night 1;elect;");
        C.due("STEPS", h.live(0), 8);
        C.due("MISSED", h.lived(0), 0);
        C.due("NIGHTS", h.lived(1), 4);
        C.due("picture", h.picture(), 32 + 128 + 256);
        C.due("mayor", h.told(10), 1);
        C.due("NIGHT", h.told(7), 4);
        C.due("OIL", h.told(8), 1 + 6 + 1);
        C.due("SEEN", h.seen(1, 2), 1);
    }

    private static void turn() {
        comesTo("turned", MIDDLE, "turn 0 0;turn 2 2;", 0, 16 + 1 + 256);
        comesTo("turned back", MIDDLE, "turn 1 1;", 0, 0);
        comesTo("STUCK ones are not", "wide 3;row nwx;", "turn 0 0;turn 1 0;turn 2 0;", 0, 2);
        comesTo("99 NIGHTS", "wide 1;row d;rule a born 0;", "night 99;", 0, 1);
        comesTo("98 NIGHTS", "wide 1;row d;rule a born 0;", "night 98;", 0, 0);
    }

    /** The state of the draws behind one of s. */
    private static long next(long s) {
        return (s * 2879 + 11083) % 65536;
    }

    private static void birth() {
        // seed 0: s is 11083, 3008; x is 1385 by 3, y is 376 by 3
        lives("2, 1", DARK, "birth;", 0, 1, 0, 0, 0, 1, 0);
        comesTo("2, 1", DARK, "birth;", 0, 32);
        comesTo("others stay as they are", "wide 3;row lld;row ldd;row lld;", "birth;", 0, 1 + 2 + 8 + 32 + 64 + 128);
        lives("no house", "wide 3;row nnn;row nnn;row nnn;", "birth;birth;", 0, 2, 2, 0, 0, 0, 0);
        lives("always lit", "wide 3;row xxx;row xxw;row xxx;", "birth;", 0, 1, 1, 0, 0, 0, 0);
        lives("always dark", "wide 3;row ddd;row ddx;row ddd;", "birth;", 0, 1, 1, 0, 0, 0, 0);
        lives("lit already", "wide 3;row ddd;row ddl;row ddd;", "birth;", 0, 1, 1, 0, 0, 0, 0);
        comesTo("lit already", "wide 3;row ddd;row ddl;row ddd;", "birth;", 0, 32);
        lives("lit by the one ahead", "wide 1;row d;", "birth;birth;", 9999, 2, 1, 0, 0, 1, 0);
        String wide = "wide 5;row ddddd;row ddddd;row ddddd;row ddddd;";
        for (int seed : new int[] {1, 2, 22, 23, 9998, 9999}) {
            long s = next(seed);
            long then = next(s);
            comesTo("x by WIDE, then y by ROWS", wide, "birth;", seed, 1L << (then / 8 % 4 * 5 + s / 8 % 5));
        }
    }

    private static void missedBirthDraws() {
        // the second one goes by the third and the fourth draw
        WindowHill h = Checks.hill("wide 3;row ddd;row ddn;row ddd;", "birth;birth;");
        C.due("STEPS", h.live(0), 2);
        C.due("MISSED", h.lived(0), 1);
        C.due("births", h.lived(3), 1);
        long third = next(3008);
        C.due("third, fourth", h.picture(), 1L << (next(third) / 8 % 3 * 3 + third / 8 % 3));
    }

    private static void storm(String town, int n, int seed, int putOut, int picture) {
        lives("put out", town, "storm " + n + ";", seed, 1, 0, 0, putOut, 0, 0);
        comesTo("put out", town, "storm " + n + ";", seed, picture);
    }

    private static void storm() {
        // seed 0: draws by 16 are 9, 8
        storm("wide 2;row ll;", 10, 0, 2, 0);
        storm("wide 2;row ll;", 9, 0, 1, 1);
        storm("wide 2;row ll;", 8, 0, 0, 3);
        storm("wide 2;row ll;", 0, 0, 0, 3);
        storm("wide 2;row ll;", 16, 0, 2, 0);
        storm("wide 5;row wdnxl;row ldddd;", 9, 0, 1, 1 + 16);
        storm("wide 1;row w;", 16, 0, 0, 1);
        storm("wide 1;row d;", 16, 0, 0, 0);
        storm("wide 5;row lllll;row lllll;row lllll;row lllll;row lllll;row lllll;", 16, 9999, 30, 0);
        // a storm of 0 draws as well: one draw, then a birth by the second and the third
        int place = (int) (next(3008) / 8 % 3 * 3 + 3008 / 8 % 3);
        comesTo("a storm of 0 draws", "wide 3;row ddd;row ddd;row ddl;", "storm 0;birth;", 0, 1 << place | 256);
        // and none for STUCK ones and dark ones
        comesTo("no draw", "wide 3;row dwd;row ddd;row ddx;", "storm 16;birth;", 0, 2 + 32);
    }

    private static void stormByPlaces() {
        WindowHill h = Checks.hill("wide 5;row lllll;row lllll;row lllll;row lllll;row lllll;row lllll;", "storm 7;");
        h.live(4321);
        long s = 4321;
        for (int place = 0; place < 30; place++) {
            s = next(s);
            C.due("of " + place, h.picture() >> place & 1, s / 8 % 16 < 7 ? 0 : 1);
        }
    }

    private static void draws() {
        // 30 births in a row, MISSED or not, each by two draws: s goes far beyond 65,536 ahead of what is left by it
        for (int seed : new int[] {0, 1, 9999}) {
            long s = seed;
            long picture = 0;
            for (int k = 0; k < 30; k++) {
                s = next(s);
                long x = s / 8 % 5;
                s = next(s);
                picture |= 1L << (s / 8 % 6 * 5 + x);
            }
            comesTo("sixty draws", "wide 5;row ddddd;row ddddd;row ddddd;row ddddd;row ddddd;row ddddd;",
                "loop 30;birth;end;", seed, picture);
        }
        R.on("town: " + DARK, "year: birth;", "live 7");
        R.gives("each live by its seed anew", "live 7", 1, "lived 0 = 1");
    }

    private static void when(String town, String test, boolean holds) {
        lives(holds ? "it holds" : "it does not", town + SPREAD, "when " + test + ";elect;end;elect;", 0, holds ? 3 : 2,
            holds ? 2 : 1, 0, 0, 0, 0);
    }

    private static void when() {
        when(MIDDLE, "lit<2", true);
        when(MIDDLE, "lit<1", false);
        when(MIDDLE, "lit<0", false);
        when(MIDDLE, "lit<30", true);
        when(MIDDLE, "lit>0", true);
        when(MIDDLE, "lit>1", false);
        when(MIDDLE, "lit>30", false);
        when(MIDDLE, "lit=1", true);
        when(MIDDLE, "lit=0", false);
        when(MIDDLE, "lit=2", false);
        when("wide 2;row wx;", "lit=1", true);
        when(DARK, "lit=0", true);
        when("wide 5;row lllll;row lllll;row lllll;row lllll;row lllll;row lllll;", "lit=30", true);
        when("wide 5;row lllll;row lllll;row lllll;row lllll;row lllll;row lllll;", "lit<30", false);
        when(MIDDLE, "lamp 1 1", true);
        when(MIDDLE, "lamp 1 0", false);
        when("wide 3;row nwx;", "lamp 0 0", false);
        when("wide 3;row nwx;", "lamp 1 0", true);
        when("wide 3;row nwx;", "lamp 2 0", false);
        when("wide 5;row ddddd;row ddddd;row ddddd;row ddddd;row ddddd;row ddddl;", "lamp 4 5", true);
        when("wide 5;row lllll;row lllll;row lllll;row lllll;row lllll;row lllld;", "lamp 4 5", false);
        when(MIDDLE, "same", false);
        when(DARK, "same", true);
    }

    private static void whenInLoop() {
        WindowHill h = Checks.hill(MIDDLE + SPREAD, "loop 5;when same;when lit=9;turn 0 0;stop;end;end;night 1;end;");
        C.due("STEPS", h.live(0), 1 + 2 + 2 + 4);
        C.due("NIGHTS", h.lived(1), 2);
        C.due("picture", h.picture(), 510);
    }

    private static void loop() {
        lives("once", "wide 1;row d;", "loop 1;turn 0 0;end;", 0, 2, 0, 0, 0, 0, 0);
        lives("five times", "wide 1;row d;", "loop 5;turn 0 0;end;", 0, 6, 0, 0, 0, 0, 0);
        comesTo("five times", "wide 1;row d;", "loop 5;turn 0 0;end;", 0, 1);
        lives("99 times", "wide 1;row d;", "loop 99;turn 0 0;end;", 0, 100, 0, 0, 0, 0, 0);
        lives("within one another", "wide 1;row d;rule a;", "loop 3;loop 2;night 2;end;loop 4;end;night 1;end;night 1;", 0,
            1 + 3 * 5 + 1, 0, 16, 0, 0, 0);
        lives("once, 99 NIGHTS", "wide 1;row d;rule a;", "loop 1;night 99;end;", 0, 2, 0, 99, 0, 0, 0);
        lives("without STEPS", "wide 1;row d;", "loop 99;end;", 0, 1, 0, 0, 0, 0, 0);
        lives("counts each time it is come to from ahead", "wide 1;row d;", "loop 3;loop 99;end;end;", 0, 4, 0, 0, 0, 0, 0);
        lives("three deep without other STEPS", "wide 1;row d;rule a;", "loop 99;loop 99;loop 99;end;end;end;", 0, 300, 0, 0,
            0, 0, 1);
        lives("in a when that does not hold", "wide 1;row d;", "when lit=1;loop 9;elect;end;end;elect;", 0, 2, 1, 0, 0, 0,
            0);
    }

    private static void stop() {
        lives("in a loop and a when", "wide 1;row d;", "loop 9;turn 0 0;when lit=1;stop;end;end;turn 0 0;", 0, 4, 0, 0, 0, 0,
            0);
        comesTo("in a loop and a when", "wide 1;row d;", "loop 9;turn 0 0;when lit=1;stop;end;end;turn 0 0;", 0, 1);
        lives("alone", "wide 1;row d;", "stop;", 0, 1, 0, 0, 0, 0, 0);
        lives("not come to", "wide 1;row d;", "when lit=1;stop;end;elect;", 0, 2, 1, 0, 0, 0, 0);
    }

    private static void liveRefused() {
        R.on(Rows.TAPED);
        R.refuses("a seed below 0", 1, "live -1");
        R.refuses("a seed above 9,999", 1, "live 10000");
        R.refuses("the largest", 1, "live" + MAX);
        R.refuses("the least", 1, "live" + MIN);
        R.gives("the least seed", "live 0", 5, "lived 1 = 2");
        R.gives("the most", "live 9999", 5, "lived 1 = 2");
        R.on("town: wide 1;row d;");
        R.refuses("no YEAR", 6, "live 0");
        R.refuses("1 ahead of 6", 1, "live -1");
        C.test("56 a FAULT gives no YEAR", () -> {
            WindowHill h = Checks.hill("wide 1;row d;");
            Checks.year(h, "night");
            C.refused(h, 6, "live", () -> h.live(0));
        });
    }

    private static void liveStays() {
        WindowHill h = Checks.hill("wide 1;row d;rule a stays 0;", "turn 0 0;night 1;");
        C.due("live", h.live(0), 2);
        C.due("lit", h.picture(), 1);
        C.due("live again", h.live(0), 2);
        C.due("from how all is", h.picture(), 0);
        C.due("NIGHT", h.told(7), 2);
        C.due("OIL", h.told(8), 1);
        C.due("SEEN", h.seen(0, 0), 1);
        C.due("the YEAR stays", h.live(9999), 2);
    }

    private static void atMost() {
        String town = "wide 1;row d;";
        lives("299", town, LONG + "elect;", 0, 299, 298, 0, 0, 0, 0);
        lives("300", town, LONG + "elect;elect;", 0, 300, 299, 0, 0, 0, 0);
        lives("a 301st is left", town, LONG + "elect;elect;elect;", 0, 300, 299, 0, 0, 0, 1);
        lives("the 300th is a stop", town, LONG + "elect;stop;elect;", 0, 300, 298, 0, 0, 0, 0);
        lives("the 301st is a stop", town, LONG + "elect;elect;stop;", 0, 300, 299, 0, 0, 0, 1);
        lives("the 301st is a when", town, LONG + "elect;elect;when lit=1;end;", 0, 300, 299, 0, 0, 0, 1);
        lives("the 301st is a loop", town, LONG + "elect;elect;loop 1;end;", 0, 300, 299, 0, 0, 0, 1);
        lives("an end behind the 300th", town, LONG + "loop 1;elect;end;", 0, 300, 298, 0, 0, 0, 0);
        lives("a loop that goes on", town, LONG + "loop 2;elect;end;", 0, 300, 298, 0, 0, 0, 1);
        lives("the 300th is a loop of nothing", town, LONG + "elect;loop 99;end;", 0, 300, 298, 0, 0, 0, 0);
        lives("the 300th is a loop of something", town, LONG + "elect;loop 1;elect;end;", 0, 300, 298, 0, 0, 0, 1);
        lives("the 300th is a when that holds", town, LONG + "elect;when lit=0;elect;end;", 0, 300, 298, 0, 0, 0, 1);
        lives("the 300th is a when that does not", town, LONG + "elect;when lit=1;elect;end;", 0, 300, 298, 0, 0, 0, 0);
        lives("29,700 NIGHTS", town, "loop 99;night 99;night 99;night 99;end;", 0, 298, 0, 297 * 99, 0, 0, 0);
    }

    private static void lived() {
        String town = "wide 3;row lll;row nwx;rule a stays 0 1 2 3 4;";
        String year = "night 3;storm 16;turn 0 1;turn 0 0;elect;loop 2;night 5;end;";
        lives("MISSED, NIGHTS, put out, births, left", town, year, 0, 8, 2, 13, 3, 0, 0);
        lives("by two storms", "wide 3;row lll;", "storm 16;turn 0 0;storm 16;", 0, 3, 0, 0, 4, 0, 0);
        lives("a birth that is put out is one", "wide 1;row d;", "birth;storm 16;birth;", 0, 3, 0, 0, 1, 2, 0);
    }

    private static void livedRefused() {
        R.on("town: wide 1;row d;", "year: night 1;");
        R.refuses("there was none", 6, "lived 0");
        R.refuses("1 ahead of 6", 1, "lived 5");
        R.on("town: wide 1;row d;", "year: night 1;", "mean 0 1");
        R.refuses("a mean is none", 6, "lived 1");
        R.on("town: wide 1;row d;", "year: night 1;", "live 10000");
        R.refuses("a refused one is none", 6, "lived 1");
        R.on(Rows.TAPED);
        R.refuses("-1", 1, "lived -1");
        R.refuses("5", 1, "lived 5");
        R.refuses("the largest", 1, "lived" + MAX);
        R.refuses("the least", 1, "lived" + MIN);
    }

    private static void livedAgain() {
        WindowHill h = Checks.hill("wide 1;row d;rule a;", "loop 99;birth;storm 16;birth;night 1;elect;end;");
        C.done(h, "live", () -> h.live(7), 300);
        for (int what = 0; what < 5; what++) {
            C.due("more than none of " + what, h.lived(what) > 0, true);
        }
        Checks.year(h, "stop;");
        C.done(h, "live", () -> h.live(7), 1);
        for (int what = 0; what < 5; what++) {
            C.due("none of " + what, h.lived(what), 0);
        }
    }

    private static void missed() {
        lives("a turn where no house is", "wide 3;row nwx;", "turn 0 0;", 0, 1, 1, 0, 0, 0, 0);
        lives("a turn of one always lit", "wide 3;row nwx;", "turn 1 0;", 0, 1, 1, 0, 0, 0, 0);
        lives("a turn of one always dark", "wide 3;row nwx;", "turn 2 0;", 0, 1, 1, 0, 0, 0, 0);
        lives("elect without CITIZENS", "wide 1;row d;rule a;", "elect;", 0, 1, 1, 0, 0, 0, 0);
        lives("elect without RULES", "wide 1;row d;citizen a likes 0 to 1;", "elect;", 0, 1, 1, 0, 0, 0, 0);
        lives("elect with both", "wide 1;row d;rule b;citizen a likes 0 to 1;", "elect;", 0, 1, 0, 0, 0, 0, 0);
        lives("a storm of nothing is none", "wide 1;row d;", "storm 5;", 0, 1, 0, 0, 0, 0, 0);
        lives("a when that does not hold is none", "wide 1;row d;", "when lit=1;end;", 0, 1, 0, 0, 0, 0, 0);
        lives("a night without RULES is none", "wide 1;row d;", "night 1;", 0, 1, 0, 1, 0, 0, 0);
    }

    private static void livedStays() {
        WindowHill h = Checks.hill("wide 1;row d;", "night 7;elect;");
        h.mark();
        C.done(h, "live", () -> h.live(0), 2);
        C.refused(h, 1, "no live", () -> h.live(-1));
        C.doneSo(h, "mean", () -> h.mean(0, 5));
        Checks.year(h, "night 1;");
        h.mean(1, 2);
        h.back();
        C.asked(h, "NIGHTS", () -> h.lived(1), 7);
        Checks.town(h, "wide 2;row dd;");
        C.asked(h, "MISSED", () -> h.lived(0), 1);
        C.refused(h, 6, "no YEAR", () -> h.live(0));
        C.asked(h, "NIGHTS", () -> h.lived(1), 7);
    }

    private static void mean() {
        // first draws by 16 of seeds 0, 1, 2, 3, 4: 9, 1, 9, 1, 8
        R.on("town: wide 1;row l;", "year: storm 8;");
        R.tells("one seed", "mean 0 1", 1, 1);
        R.tells("0 by 1", "mean 1 1", 0, 1);
        R.tells("two seeds from the first on", "mean 0 2", 1, 2);
        R.tells("three", "mean 0 3", 2, 3);
        R.on("town: wide 1;row l;", "year: storm 9;");
        R.tells("one seed", "mean 2 1", 1, 1);
        R.tells("two", "mean 2 2", 1, 2);
        R.tells("0 by 2 is 0 by 1", "mean 3 2", 0, 1);
        R.on("town: wide 5;row wwwww;", "year: storm 16;");
        R.tells("20, STUCK ones are lit, too", "mean 5 20", 5, 1);
        R.on("town: wide 1;row l;", "year: storm 16;");
        R.tells("0 by 20 is 0 by 1", "mean 0 20", 0, 1);
        R.on("town: wide 2;row ll;", "year: ");
        R.tells("a YEAR of no STEPS", "mean 3 7", 2, 1);
        R.on(Rows.TAPED);
        R.gives("the last seed is 9,999", "mean 9980 20", 1, "status = 0");
        R.gives("9,999 alone", "mean 9999 1", 1, "status = 0");
        R.on("town: wide 1;row l;", "year: turn 0 0;");
        R.tells("each from how all is now", "mean 0 2", 0, 1);
        R.on("town: wide 1;row d;rule a;rule b born 0;", "year: night 1;mayor b;");
        R.tells("each by the mayor's RULE as it is now", "mean 0 2", 0, 1);
        R.on("town: wide 1;row d;rule a;rule b born 0;", "mayor 1", "year: night 1;mayor a;");
        R.tells("each by the mayor's RULE as it is now", "mean 0 3", 1, 1);
        R.on("town: wide 5;row ddddd;row ddddd;row ddddd;row ddddd;row ddddd;row ddddd;rule a born 0;", "year: night 1;");
        R.tells("30", "mean 0 20", 30, 1);
    }

    private static void meanLeaves() {
        WindowHill h = Checks.hill(MIDDLE + SPREAD + "rule none;citizen a likes 0 to 0;",
            "turn 0 0;night 3;elect;storm 9;birth;night 1;");
        h.company();
        String before = Checks.all(h);
        long ahead = h.ahead(1);
        C.doneSo(h, "mean", () -> h.mean(17, 4));
        String then = Checks.all(h);
        C.due("all but the FRACTION", withoutFraction(before).equals(withoutFraction(then)), true);
        C.due("the mayor's RULE", h.ahead(1), ahead);
        C.refused(h, 6, "LIVED", () -> h.lived(0));
        C.done(h, "the YEAR", () -> h.live(17), 6);
        WindowHill other = Checks.hill(MIDDLE + SPREAD + "rule none;citizen a likes 0 to 0;",
            "turn 0 0;night 3;elect;storm 9;birth;night 1;");
        other.live(17);
        C.due("as if there had been no mean", other.picture(), h.picture());
        C.due("OIL", other.told(8), h.told(8));
    }

    /** Without the second and the third number of all. */
    private static String withoutFraction(String all) {
        return all.replaceFirst(" \\S+ \\S+", "");
    }

    private static void meanRefused() {
        R.on(Rows.TAPED);
        R.refuses("a seed below 0", 1, "mean -1 1");
        R.refuses("a seed above 9,999", 1, "mean 10000 1");
        R.refuses("no seeds", 1, "mean 0 0");
        R.refuses("fewer than no seeds", 1, "mean 0 -1");
        R.refuses("21 seeds", 1, "mean 0 21");
        R.refuses("the last above 9,999", 1, "mean 9981 20");
        R.refuses("the last above 9,999, of two", 1, "mean 9999 2");
        R.refuses("the last wraps around", 1, "mean" + MAX + " 20");
        R.refuses("the largest of both", 1, "mean" + MAX + MAX);
        R.refuses("the least of both", 1, "mean" + MIN + MIN);
        R.on("town: wide 1;row l;", "company");
        R.refuses("no YEAR", 6, "mean 0 1");
        R.refuses("1 ahead of 6", 1, "mean 0 0");
    }

    private static void mark() {
        R.on("town: " + MIDDLE + SPREAD);
        R.gives("the first", "mark", 1, "picture = 16", "told 7 = 0");
        R.on("town: " + MIDDLE + SPREAD, "mark", "night 1");
        R.gives("the second", "mark", 2, "picture = 186");
        R.on("town: " + MIDDLE + SPREAD, "mark", "night 1", "mark", "night 1");
        R.gives("the third", "mark", 3, "picture = 511");
        R.on("town: " + MIDDLE + SPREAD, "mark", "night 1", "mark", "night 1", "mark", "turn 0 0");
        R.refuses("a fourth", 4, "mark");
        R.gives("a fourth behind a back", "back", 2, "mark = 3", "mark = -1", "status = 4");
    }

    private static void back() {
        WindowHill h = Checks.hill(MIDDLE + SPREAD);
        h.mark();
        h.night(1);
        h.mark();
        h.night(1);
        h.mark();
        h.turn(0, 0);
        C.done(h, "back", h::back, 2);
        C.due("511", h.picture(), 511);
        h.night(5);
        C.done(h, "back", h::back, 1);
        C.due("186", h.picture(), 186);
        C.due("NIGHT", h.told(7), 1);
        C.due("OIL", h.told(8), 1);
        C.due("SEEN", h.rulesLeft(), 128);
        C.done(h, "back", h::back, 0);
        C.due("16", h.picture(), 16);
        C.due("SEEN", h.rulesLeft(), 1024);
        C.refused(h, 6, "none", h::back);
    }

    private static void backToAll() {
        String town = "wide 3 ring;row dln;row wxd;rule a born 1 stays 2;rule b born 0 3;citizen c likes 2 to 5;"
            + "citizen d likes 0 to 0;";
        WindowHill h = Checks.hill(town, "night 2;turn 0 0;mayor b;");
        h.bend(1, 7, 9);
        h.night(2);
        String before = Checks.all(h);
        long ancestors = h.ancestors();
        long heaps = h.heaps(0);
        h.mark();
        h.night(9);
        h.mayor(1);
        h.bend(0, 30, 30);
        h.bend(1, 0, 0);
        h.forget();
        Checks.year(h, "storm 16;");
        Checks.town(h, "wide 5;row lllll;row nwxld;row lllll;rule z born 0;rule y;rule x;citizen w likes 1 to 1;");
        Checks.year(h, "mayor z;mayor y;mayor x;elect;");
        h.mark();
        C.due("marks", h.back(), 1);
        C.due("back", h.back(), 0);
        // the latest text was right then and is now: FAULT 0
        C.due("all", Checks.all(h).equals(before), true);
        C.due("ANCESTORS", h.ancestors(), ancestors);
        C.due("HEAPS", h.heaps(0), heaps);
        C.due("the YEAR", h.live(0), 3);
        C.due("NIGHTS", h.lived(1), 2);
        C.due("the names", Checks.year(h, "mayor a;mayor b;"), 2);
        C.due("other names", Checks.year(h, "mayor z;"), -1);
        WindowHill none = Checks.hill(town);
        none.mark();
        Checks.year(none, "night 1;");
        none.back();
        C.refused(none, 6, "no YEAR then", () -> none.live(0));
    }

    private static void backToOther() {
        for (String one : Rows.UNLIKE_TOWNS) {
            for (String other : Rows.UNLIKE_TOWNS) {
                WindowHill h = Rows.made("town: " + one, "mark", "town: " + other, "night 1", "back");
                Rows.sameAsNew(C, h, one);
            }
        }
    }

    private static void backFromEach() {
        String town = "town: wide 3;row ldd;row wdx;rule a born 1 stays 0;rule b born 0 1 2;citizen c likes 9 to 9;";
        R.on(town, "year: birth;", "mayor 0", "night 2");
        R.takesBack("the PICTURE", "turn 0 0");
        R.takesBack("the PICTURE", "paint 63");
        R.takesBack("PICTURE, NIGHT, OIL, what was SEEN", "night 3");
        R.takesBack("the mayor", "mayor 1");
        R.takesBack("BORN", "bend 0 31 1");
        R.takesBack("STAYS", "bend 0 2 31");
        R.takesBack("BORN of another", "bend 1 0 0");
        R.takesBack("what was SEEN", "forget");
        R.takesBack("the YEAR", "year: night 1;");
        R.takesBack("the TOWN", "town: wide 1;row d;");
        R.on(town, "year: birth;", "mayor 1", "night 1");
        R.takesBack("the mayor, another one", "mayor 0");
        R.takesBack("the mayor ahead of an ELECTION", "paint 1", "mayor 0", "elect");
        R.on(town);
        R.takesBack("no YEAR", "year: night 1;");
        R.on("town: wide 1;row d;rule a;rule b born 0;citizen c likes 1 to 1;");
        R.takesBack("the mayor ahead of an ELECTION", "elect");
    }

    private static void notTakenBack() {
        WindowHill h = Checks.hill("wide 2;row ll;", "night 4;");
        h.tray(0, 0, 1);
        h.mark();
        h.write(0, 0, 9);
        h.company();
        h.live(0);
        h.feed(0, 0, 0, 0, 0);
        C.due("back", h.back(), 0);
        C.due("TRAY", h.read(0, 0), 9);
        C.due("FRACTION", h.bottom() + h.top(), 2);
        C.due("LIVED", h.lived(1), 4);
        C.due("tape", h.feed(0, 0, 0, 0, 0), 40);
        C.due("picture", h.picture(), 3);
    }

    private static void backRefused() {
        R.on("town: " + MIDDLE + SPREAD);
        R.refuses("no MARK", 6, "back");
        R.on("town: " + MIDDLE + SPREAD, "mark", "night 1");
        R.gives("none is left", "back", 0, "picture = 16", "back = -1", "status = 6", "picture = 16", "mark = 1");
    }
}
