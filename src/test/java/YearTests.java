/** Promises 56 to 60: YEARS that are lived, their mean, MARKS. */
public final class YearTests {
    private static final Checks C = new Checks();
    private static final String SPREAD = "rule spread born 1 2 3 4 stays 0 1 2 3 4;";
    private static final String MIDDLE = "wide 3;row ddd;row dld;row ddd;";
    private static final String DARK = "wide 3;row ddd;row ddd;row ddd;";
    /** 298 STEPS. */
    private static final String LONG = "loop 99;elect;elect;elect;end;";

    public static void main(String[] args) {
        C.test("56 night, turn, mayor, elect", YearTests::plainSteps);
        C.test("56 birth and its draws", YearTests::birth);
        C.test("56 storm and its draws", YearTests::storm);
        C.test("56 when", YearTests::when);
        C.test("56 loop", YearTests::loop);
        C.test("56 stop", YearTests::stop);
        C.test("56 live, wrong", YearTests::liveWrong);
        C.test("56 what it comes to stays", YearTests::liveStays);
        C.test("56, 57 at most 300 STEPS", YearTests::atMost);
        C.test("57 lived", YearTests::lived);
        C.test("57 lived, the latest alone", YearTests::livedAgain);
        C.test("57 MISSED", YearTests::missed);
        C.test("57 whatever came behind it", YearTests::livedStays);
        C.test("58 mean", YearTests::mean);
        C.test("58 mean leaves all as it is", YearTests::meanLeaves);
        C.test("58 mean, wrong", YearTests::meanWrong);
        C.test("59 mark", YearTests::mark);
        C.test("60 back", YearTests::back);
        C.test("60 back to the YEAR, the RULES", YearTests::backToAll);
        C.test("60 what is not taken back", YearTests::notTakenBack);
        C.end();
    }

    private static void lives(WindowHill h, int seed, int steps, int... lived) {
        C.done(h, "live", () -> h.live(seed), steps);
        for (int what = 0; what < lived.length; what++) {
            int w = what;
            C.asked(h, "lived " + what, () -> h.lived(w), lived[what]);
        }
    }

    private static void plainSteps() {
        WindowHill h = Checks.hill(MIDDLE + SPREAD + "rule none;citizen a likes 0 to 0;",
            "night 1;turn 0 0;mayor none;night 2;mayor spread;turn 2 2;night 1;elect;");
        lives(h, 0, 8, 0, 4, 0, 0, 0);
        C.due("picture", h.picture(), 32 + 128 + 256);
        C.due("mayor", h.told(10), 1);
        C.due("NIGHT", h.told(7), 4);
        C.due("OIL", h.told(8), 1 + 6 + 1);
        C.due("SEEN", h.seen(1, 2), 1);
    }

    private static void birth() {
        // seed 0: s is 11083, 3008; x is 1385 by 3, y is 376 by 3
        WindowHill h = Checks.hill(DARK, "birth;");
        lives(h, 0, 1, 0, 0, 0, 1, 0);
        C.due("2, 1", h.picture(), 32);
        // seed 1: s is 13962, 33825 (13962 times 2879 and 11083 by 65536)
        long s = 1L * 2879 + 11083;
        long then = (s * 2879 + 11083) % 65536;
        WindowHill other = Checks.hill("wide 5;row ddddd;row ddddd;row ddddd;row ddddd;", "birth;");
        lives(other, 1, 1, 0, 0, 0, 1, 0);
        C.due("seed 1", other.picture(), 1L << (then / 8 % 4 * 5 + s / 8 % 5));
        WindowHill gaps = Checks.hill("wide 3;row nnn;row nnn;row nnn;", "birth;birth;");
        lives(gaps, 0, 2, 2, 0, 0, 0, 0);
        WindowHill stuck = Checks.hill("wide 3;row www;row xxx;row xxx;", "birth;");
        lives(stuck, 0, 1, 1, 0, 0, 0, 0);
        WindowHill lit = Checks.hill("wide 1;row d;", "birth;birth;");
        lives(lit, 9999, 2, 1, 0, 0, 1, 0);
        // a MISSED one draws as well: the next one goes by the third and the fourth draw
        WindowHill next = Checks.hill("wide 3;row ddd;row ddn;row ddd;", "birth;birth;");
        lives(next, 0, 2, 1, 0, 0, 1, 0);
        long third = (3008L * 2879 + 11083) % 65536;
        long fourth = (third * 2879 + 11083) % 65536;
        C.due("third, fourth", next.picture(), 1L << (fourth / 8 % 3 * 3 + third / 8 % 3));
    }

    private static void stormOf(String town, int n, int seed, int putOut, int picture) {
        WindowHill h = Checks.hill(town, "storm " + n + ";");
        lives(h, seed, 1, 0, 0, putOut, 0, 0);
        C.due("storm " + n, h.picture(), picture);
    }

    private static void storm() {
        // seed 0: draws by 16 are 9, 8
        stormOf("wide 2;row ll;", 10, 0, 2, 0);
        stormOf("wide 2;row ll;", 9, 0, 1, 1);
        stormOf("wide 2;row ll;", 8, 0, 0, 3);
        stormOf("wide 2;row ll;", 0, 0, 0, 3);
        stormOf("wide 2;row ll;", 16, 0, 2, 0);
        stormOf("wide 5;row wdnxl;row ldddd;", 9, 0, 1, 1 + 16);
        stormOf("wide 1;row w;", 16, 0, 0, 1);
        // a storm of 0 draws as well: once, then a birth by 3008 and the third
        WindowHill h = Checks.hill("wide 3;row lxx;row ddd;row ddd;", "storm 0;birth;");
        h.live(0);
        long third = (3008L * 2879 + 11083) % 65536;
        int place = (int) (third / 8 % 3 * 3 + 376 % 3);
        C.due("birth behind", h.picture() >> place & 1, place == 1 || place == 2 ? 0 : 1);
    }

    private static void whenOf(String town, String test, boolean holds) {
        WindowHill h = Checks.hill(town + SPREAD, "when " + test + ";elect;end;elect;");
        lives(h, 0, holds ? 3 : 2, holds ? 2 : 1, 0, 0, 0, 0);
    }

    private static void when() {
        whenOf(MIDDLE, "lit<2", true);
        whenOf(MIDDLE, "lit<1", false);
        whenOf(MIDDLE, "lit>0", true);
        whenOf(MIDDLE, "lit>1", false);
        whenOf(MIDDLE, "lit=1", true);
        whenOf(MIDDLE, "lit=0", false);
        whenOf("wide 2;row wx;", "lit=1", true);
        whenOf(DARK, "lit=0", true);
        whenOf(MIDDLE, "lamp 1 1", true);
        whenOf(MIDDLE, "lamp 1 0", false);
        whenOf("wide 3;row nwx;", "lamp 0 0", false);
        whenOf("wide 3;row nwx;", "lamp 1 0", true);
        whenOf("wide 3;row nwx;", "lamp 2 0", false);
        whenOf(MIDDLE, "same", false);
        whenOf(DARK, "same", true);
        WindowHill h = Checks.hill(MIDDLE + SPREAD, "loop 5;when same;when lit=9;turn 0 0;stop;end;end;night 1;end;");
        lives(h, 0, 1 + 2 + 2 + 4, 0, 2, 0, 0, 0);
        C.due("picture", h.picture(), 510);
    }

    private static void loop() {
        WindowHill h = Checks.hill("wide 1;row d;", "loop 5;turn 0 0;end;");
        lives(h, 0, 6, 0, 0, 0, 0, 0);
        C.due("five times", h.picture(), 1);
        WindowHill inner = Checks.hill("wide 1;row d;rule a;", "loop 3;loop 2;night 2;end;loop 4;end;night 1;end;night 1;");
        lives(inner, 0, 1 + 3 * 5 + 1, 0, 16, 0, 0, 0);
        WindowHill one = Checks.hill("wide 1;row d;rule a;", "loop 1;night 99;end;");
        lives(one, 0, 2, 0, 99, 0, 0, 0);
        WindowHill empty = Checks.hill("wide 1;row d;rule a;", "loop 99;loop 99;loop 99;end;end;end;");
        lives(empty, 0, 300, 0, 0, 0, 0, 1);
    }

    private static void stop() {
        WindowHill h = Checks.hill("wide 1;row d;", "loop 9;turn 0 0;when lit=1;stop;end;end;turn 0 0;");
        lives(h, 0, 4, 0, 0, 0, 0, 0);
        C.due("picture", h.picture(), 1);
    }

    private static void liveWrong() {
        WindowHill h = Checks.hill("wide 1;row d;", "turn 0 0;");
        C.refused(h, 1, "-1", () -> h.live(-1));
        C.refused(h, 1, "10000", () -> h.live(10000));
        C.done(h, "9999", () -> h.live(9999), 1);
        WindowHill none = Checks.hill("wide 1;row d;");
        C.refused(none, 6, "no YEAR", () -> none.live(0));
        C.refused(none, 1, "1 ahead of 6", () -> none.live(-1));
        Checks.year(none, "night");
        C.refused(none, 6, "a FAULT gives none", () -> none.live(0));
    }

    private static void liveStays() {
        WindowHill h = Checks.hill("wide 1;row d;rule a stays 0;", "turn 0 0;night 1;");
        lives(h, 0, 2, 0, 1, 0, 0, 0);
        C.due("lit", h.picture(), 1);
        lives(h, 0, 2, 0, 1, 0, 0, 0);
        C.due("from how all is", h.picture(), 0);
        C.due("NIGHT", h.told(7), 2);
        C.due("OIL", h.told(8), 1);
        C.due("SEEN", h.seen(0, 0), 1);
    }

    private static void atMost() {
        String town = "wide 1;row d;";
        lives(Checks.hill(town, LONG + "elect;elect;"), 0, 300, 299, 0, 0, 0, 0);
        lives(Checks.hill(town, LONG + "elect;elect;elect;"), 0, 300, 299, 0, 0, 0, 1);
        lives(Checks.hill(town, LONG + "elect;stop;elect;"), 0, 300, 298, 0, 0, 0, 0);
        lives(Checks.hill(town, LONG + "elect;elect;stop;"), 0, 300, 299, 0, 0, 0, 1);
        lives(Checks.hill(town, LONG + "loop 1;elect;end;"), 0, 300, 298, 0, 0, 0, 0);
        lives(Checks.hill(town, LONG + "loop 2;elect;end;"), 0, 300, 298, 0, 0, 0, 1);
        lives(Checks.hill(town, LONG + "elect;loop 99;end;"), 0, 300, 298, 0, 0, 0, 0);
        lives(Checks.hill(town, LONG + "elect;when lit=0;elect;end;"), 0, 300, 298, 0, 0, 0, 1);
        lives(Checks.hill(town, LONG + "elect;when lit=1;elect;end;"), 0, 300, 298, 0, 0, 0, 0);
        lives(Checks.hill(town, LONG + "elect;"), 0, 299, 298, 0, 0, 0, 0);
    }

    private static void lived() {
        WindowHill h = Checks.hill("wide 3;row lll;row nwx;rule a stays 0 1 2 3 4;",
            "night 3;storm 16;turn 0 1;turn 0 0;elect;loop 2;night 5;end;birth;");
        C.refused(h, 6, "there was none", () -> h.lived(0));
        C.refused(h, 1, "1 ahead of 6", () -> h.lived(5));
        // the birth: draws 4 and 5 of seed 0
        h.live(0);
        int born = h.lived(3);
        C.asked(h, "MISSED", () -> h.lived(0), 2 + 1 - born);
        C.asked(h, "NIGHTS", () -> h.lived(1), 13);
        C.asked(h, "put out", () -> h.lived(2), 3);
        C.asked(h, "left", () -> h.lived(4), 0);
        C.refused(h, 1, "-1", () -> h.lived(-1));
        C.refused(h, 1, "5", () -> h.lived(5));
    }

    private static void livedAgain() {
        WindowHill h = Checks.hill("wide 1;row d;rule a;", "loop 99;birth;storm 16;birth;night 1;elect;end;");
        C.done(h, "live", () -> h.live(7), 300);
        for (int what = 0; what < 5; what++) {
            C.due("more than none of " + what, h.lived(what) > 0, true);
        }
        Checks.year(h, "stop;");
        lives(h, 7, 1, 0, 0, 0, 0, 0);
    }

    private static void missed() {
        lives(Checks.hill("wide 3;row nwx;", "turn 0 0;turn 1 0;turn 2 0;"), 0, 3, 3, 0, 0, 0, 0);
        lives(Checks.hill("wide 1;row d;rule a;", "elect;"), 0, 1, 1, 0, 0, 0, 0);
        lives(Checks.hill("wide 1;row d;citizen a likes 0 to 1;", "elect;"), 0, 1, 1, 0, 0, 0, 0);
        lives(Checks.hill("wide 1;row d;rule b;citizen a likes 0 to 1;", "elect;"), 0, 1, 0, 0, 0, 0, 0);
        lives(Checks.hill("wide 1;row d;", "storm 5;when lit=1;end;night 1;"), 0, 3, 0, 1, 0, 0, 0);
    }

    private static void livedStays() {
        WindowHill h = Checks.hill("wide 1;row d;", "night 7;elect;");
        h.mark();
        lives(h, 0, 2, 1, 7, 0, 0, 0);
        C.refused(h, 1, "no live", () -> h.live(-1));
        C.doneSo(h, "mean", () -> h.mean(0, 5));
        Checks.year(h, "night 1;");
        h.mean(1, 2);
        h.back();
        C.asked(h, "NIGHTS", () -> h.lived(1), 7);
        Checks.town(h, "wide 2;row dd;");
        C.asked(h, "MISSED", () -> h.lived(0), 1);
        Checks.year(h, "");
        lives(h, 0, 0, 0, 0, 0, 0, 0);
    }

    private static void meanOf(WindowHill h, int seed, int many, long top, long bottom) {
        C.doneSo(h, "mean", () -> h.mean(seed, many));
        C.due("top of " + seed + " " + many, h.top(), top);
        C.due("bottom of " + seed + " " + many, h.bottom(), bottom);
    }

    private static void mean() {
        // first draws by 16 of seeds 0, 1, 2: 9, 1, 9
        WindowHill h = Checks.hill("wide 1;row l;", "storm 8;");
        meanOf(h, 0, 1, 1, 1);
        meanOf(h, 1, 1, 0, 1);
        meanOf(h, 0, 2, 1, 2);
        meanOf(h, 0, 3, 2, 3);
        // first draws by 16 of seeds 3, 4: 1, 8
        WindowHill higher = Checks.hill("wide 1;row l;", "storm 9;");
        meanOf(higher, 2, 1, 1, 1);
        meanOf(higher, 2, 2, 1, 2);
        meanOf(higher, 3, 2, 0, 1);
        WindowHill stuck = Checks.hill("wide 5;row wwwww;", "storm 16;");
        meanOf(stuck, 5, 20, 5, 1);
        WindowHill none = Checks.hill("wide 1;row l;", "storm 16;");
        meanOf(none, 0, 20, 0, 1);
        WindowHill empty = Checks.hill("wide 2;row ll;");
        empty.year(0);
        meanOf(empty, 3, 7, 2, 1);
    }

    private static void meanLeaves() {
        WindowHill h = Checks.hill(MIDDLE + SPREAD + "rule none;citizen a likes 0 to 0;",
            "turn 0 0;night 3;elect;storm 9;birth;night 1;");
        h.company();
        String before = Checks.all(h);
        long ahead = h.ahead(1);
        C.doneSo(h, "mean", () -> h.mean(17, 4));
        String then = Checks.all(h);
        C.due("all but the FRACTION", withoutFraction(before).equals(withoutFraction(then)), true);
        C.due("the mayor's RULE", h.ahead(1), ahead);
        C.refused(h, 6, "LIVED", () -> h.lived(0));
        C.done(h, "the YEAR", () -> h.live(17), 6);
        WindowHill other = Checks.hill(MIDDLE + SPREAD + "rule none;citizen a likes 0 to 0;",
            "turn 0 0;night 3;elect;storm 9;birth;night 1;");
        other.live(17);
        C.due("as if there had been no mean", other.picture(), h.picture());
        C.due("OIL", other.told(8), h.told(8));
    }

    /** Without the second and the third number of all. */
    private static String withoutFraction(String all) {
        return all.replaceFirst(" \\S+ \\S+", "");
    }

    private static void meanWrong() {
        WindowHill h = Checks.hill("wide 1;row l;", "storm 8;");
        h.company();
        int[][] wrong = {{-1, 1}, {10000, 1}, {0, 0}, {0, -1}, {0, 21}, {9981, 20}, {9999, 2},
            {Integer.MAX_VALUE, 20}, {Integer.MAX_VALUE, Integer.MAX_VALUE}};
        for (int[] w : wrong) {
            C.denied(h, 1, "mean " + w[0] + " " + w[1], () -> h.mean(w[0], w[1]));
        }
        C.doneSo(h, "the last is 9999", () -> h.mean(9980, 20));
        C.doneSo(h, "9999", () -> h.mean(9999, 1));
        WindowHill none = Checks.hill("wide 1;row l;");
        C.denied(none, 6, "no YEAR", () -> none.mean(0, 1));
        C.denied(none, 1, "1 ahead of 6", () -> none.mean(0, 0));
    }

    private static void mark() {
        WindowHill h = Checks.hill(MIDDLE + SPREAD);
        String before = Checks.all(h);
        C.done(h, "1", h::mark, 1);
        C.done(h, "2", h::mark, 2);
        C.done(h, "3", h::mark, 3);
        C.refused(h, 4, "4", h::mark);
        C.due("nothing changed", before.equals(Checks.all(h)), true);
        C.done(h, "back", h::back, 2);
        C.done(h, "3 again", h::mark, 3);
        C.refused(h, 4, "4", h::mark);
    }

    private static void back() {
        WindowHill h = Checks.hill(MIDDLE + SPREAD);
        h.mark();
        h.night(1);
        h.mark();
        h.night(1);
        h.mark();
        h.turn(0, 0);
        C.done(h, "back", h::back, 2);
        C.due("511", h.picture(), 511);
        h.night(5);
        C.done(h, "back", h::back, 1);
        C.due("186", h.picture(), 186);
        C.due("NIGHT", h.told(7), 1);
        C.due("OIL", h.told(8), 1);
        C.due("SEEN", h.rulesLeft(), 128);
        C.done(h, "back", h::back, 0);
        C.due("16", h.picture(), 16);
        C.due("SEEN", h.rulesLeft(), 1024);
        C.refused(h, 6, "none", h::back);
    }

    private static void backToAll() {
        String town = "wide 3 ring;row dln;row wxd;rule a born 1 stays 2;rule b born 0 3;citizen c likes 2 to 5;"
            + "citizen d likes 0 to 0;";
        WindowHill h = Checks.hill(town, "night 2;turn 0 0;mayor b;");
        h.bend(1, 7, 9);
        h.night(2);
        String before = Checks.all(h);
        long ancestors = h.ancestors();
        long heaps = h.heaps(0);
        h.mark();
        h.night(9);
        h.mayor(1);
        h.bend(0, 30, 30);
        h.bend(1, 0, 0);
        h.forget();
        Checks.year(h, "storm 16;");
        Checks.town(h, "wide 5;row lllll;row nwxld;row lllll;rule z born 0;rule y;rule x;citizen w likes 1 to 1;");
        Checks.year(h, "mayor z;mayor y;mayor x;elect;");
        h.mark();
        C.due("marks", h.back(), 1);
        C.due("back", h.back(), 0);
        // the latest text was right then and is now: FAULT 0
        C.due("all", Checks.all(h).equals(before), true);
        C.due("ANCESTORS", h.ancestors(), ancestors);
        C.due("HEAPS", h.heaps(0), heaps);
        C.due("the YEAR", h.live(0), 3);
        C.due("NIGHTS", h.lived(1), 2);
        C.due("the names", Checks.year(h, "mayor a;mayor b;"), 2);
        C.due("other names", Checks.year(h, "mayor z;"), -1);
        WindowHill none = Checks.hill(town);
        none.mark();
        Checks.year(none, "night 1;");
        none.back();
        C.refused(none, 6, "no YEAR then", () -> none.live(0));
    }

    private static void notTakenBack() {
        WindowHill h = Checks.hill("wide 2;row ll;", "night 4;");
        h.tray(0, 0, 1);
        h.mark();
        h.write(0, 0, 9);
        h.company();
        h.live(0);
        h.feed(0, 0, 0, 0, 0);
        C.due("back", h.back(), 0);
        C.due("TRAY", h.read(0, 0), 9);
        C.due("FRACTION", h.bottom() + h.top(), 2);
        C.due("LIVED", h.lived(1), 4);
        C.due("tape", h.feed(0, 0, 0, 0, 0), 40);
        C.due("picture", h.picture(), 3);
    }
}
