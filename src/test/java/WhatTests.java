/** Promises 33 to 55: what was, lamps turned, what was SEEN, ELECTIONS, SHIPS. */
public final class WhatTests {
    private static final Checks C = new Checks();
    private static final Rows R = new Rows(C);
    private static final String MAX = Rows.MAX;
    private static final String MIN = Rows.MIN;
    private static final String SPREAD = Rows.SPREAD;
    private static final String STAYS = "rule keep stays 0 1 2 3 4;";
    private static final String DARK = "town: wide 3;row ddd;row ddd;row ddd;";
    private static final String MIDDLE = "town: wide 3;row ddd;row dld;row ddd;";
    private static final String LARGE = "town: wide 5;row ddddd;row ddddd;row ddddd;row ddddd;row ddddd;row ddddd;";
    /** The last PLACE alone is not STUCK. */
    private static final String LAST = "town: wide 5;row xxxxx;row xxxxx;row xxxxx;row xxxxx;row xxxxx;row xxxxd;";
    private static final int ALL = (1 << 30) - 1;

    public static void main(String[] args) {
        ancestors();
        orphan();
        largeAncestors();
        stills();
        largeStills();
        pictures();
        signal();
        signalOfSeveral();
        signalLarge();
        signalRefused();
        spoils();
        spoilsRefused();
        worst();
        mend();
        mendLarge();
        unlike();
        seen();
        seenBoth();
        seenRefused();
        rulesLeft();
        fits();
        forget();
        shows();
        vote();
        votes();
        elect();
        reads();
        mirror();
        heaps();
        heap();
        company();
        C.end();
    }

    private static void ancestors(String why, long many, long first) {
        R.gives(why, "ancestors", many);
        R.gives(why + ": FIRST", "ancestor", first);
    }

    private static void ancestors() {
        R.on("town: wide 3;row lll;" + SPREAD);
        ancestors("with the middle one, or both others", 5, 2);
        R.on("town: wide 3;row ddd;" + SPREAD);
        ancestors("the dark one alone", 1, 0);
        R.on("town: wide 3;row lwl;" + SPREAD);
        ancestors("a STUCK one is as it is", 4, 2);
        R.on("town: wide 3;row dwn;row xdd;");
        ancestors("without RULES all", 8, 2);
        R.on("town: wide 1;row n;");
        ancestors("no house", 1, 0);
        R.on("town: wide 1;row w;" + SPREAD);
        ancestors("a STUCK one alone", 1, 1);
        R.on("town: wide 3 ring;row lll;" + SPREAD);
        ancestors("a RING", 7, 1);
        R.on("town: wide 1;row l;row l;row l;row l;row l;row l;" + SPREAD);
        ancestors("six ROWS of 1", 31, 18);
    }

    private static void orphan() {
        R.on("town: wide 3;row ldl;" + SPREAD);
        R.gives("none", "ancestors", 0);
        R.refuses("an ORPHAN", 6, "ancestor");
        R.on("town: wide 2;row ld;");
        R.gives("without RULES", "ancestors", 0);
        R.refuses("without RULES", 6, "ancestor");
        R.on("town: wide 2;row dw;" + SPREAD);
        R.refuses("by a STUCK one", 6, "ancestor");
        R.on("town: wide 5;row ddddd;row ddddd;row ddddd;row ddddd;row ddddd;row ddddl;" + SPREAD);
        R.refuses("by the last PLACE", 6, "ancestor");
    }

    private static void largeAncestors() {
        String town = LARGE + "rule a;" + STAYS + "rule c born 0 1 2 3 4;";
        R.on(town);
        ancestors("all 2^30 become dark", 1 << 30, 0);
        R.on(town, "paint 123456789");
        R.gives("none becomes so", "ancestors", 0);
        R.on(town, "paint 123456789", "mayor 1");
        ancestors("itself", 1, 123456789);
        R.on(town, "paint 123456789", "mayor 2");
        ancestors("the turned one", 1, ALL - 123456789);
        R.on(town, "paint 0", "mayor 2");
        ancestors("all lit", 1, ALL);
    }

    private static void stills(String why, long many, long first) {
        R.gives(why, "stills", many);
        R.gives(why + ": the least", "firstStill", first);
    }

    private static void stills() {
        R.on(MIDDLE + SPREAD);
        stills("dark or all lit", 2, 0);
        R.on("town: wide 1;row d;row d;row d;rule a born 0 stays 0;");
        stills("both ends or the middle", 2, 2);
        R.on("town: wide 1;row d;rule a born 0;");
        R.gives("none", "stills", 0);
        R.refuses("none", 6, "firstStill");
        R.on("town: wide 3;row wxl;");
        stills("without RULES", 1, 1);
        R.on("town: wide 3;row wnw;");
        stills("no lamp that is not STUCK", 1, 5);
        R.on("town: wide 3 ring;row ddd;rule a stays 2;");
        stills("by a RING", 2, 0);
    }

    private static void largeStills() {
        R.on(LARGE + STAYS);
        stills("all 2^30", 1 << 30, 0);
        R.on(LARGE + STAYS, "bend 0 31 31");
        stills("all lit", 1, ALL);
        R.on(LARGE + STAYS, "bend 0 0 0", "paint 77");
        stills("dark", 1, 0);
    }

    private static void pictures() {
        R.on();
        R.gives("one house", "pictures", 2);
        R.on("town: wide 5;row dlnwx;row ddddd;");
        R.gives("7 lamps that are not STUCK", "pictures", 128);
        R.on(LARGE);
        R.gives("30", "pictures", 1 << 30);
        R.on("town: wide 3;row nwx;");
        R.gives("none", "pictures", 1);
    }

    private static void signal(String why, String call, int many, int set) {
        R.gives(why, "signal " + call + " 0", many);
        R.gives(why + ": the set", "signal " + call + " 1", set);
    }

    private static void signal() {
        R.on(DARK + SPREAD);
        signal("0 NIGHTS", "2 2 0", 1, 256);
        signal("1 NIGHT", "2 2 1", 1, 32);
        signal("2 NIGHTS", "0 0 2", 1, 1);
        signal("2 NIGHTS, the least", "2 2 2", 1, 4);
        signal("4 NIGHTS, the least", "2 2 4", 1, 1);
        signal("30 NIGHTS", "2 2 30", 1, 1);
        R.on(DARK + "rule one born 1;");
        signal("it must be another one", "0 0 1", 1, 2);
        R.on(DARK + "rule three born 3;");
        signal("by three", "1 0 1", 3, 1 + 4 + 16);
        signal("by three of four, the least", "1 1 1", 3, 2 + 8 + 32);
        R.on(DARK + "rule four born 4;", "turn 1 0");
        signal("three more than there are", "1 1 1", 3, 8 + 32 + 128);
        signal("lit already", "1 0 0", 0, 0);
        R.on("town: wide 3;row wxd;rule a born 1 stays 0;");
        signal("always lit", "0 0 30", 0, 0);
        signal("a STUCK one can't be turned", "2 0 5", 1, 4);
        R.on("town: wide 3;row dld;row dld;rule a born 2;");
        signal("two lit wanted, one is", "0 0 1", 1, 8);
        signal("itself and one more", "1 0 1", 2, 1 + 2);
    }

    private static void signalOfSeveral() {
        R.on(DARK + "rule a;", "bend 0 16 2", "paint 489");
        signal("32 and 64 are less than 8 and 256", "1 2 3", 2, 96);
        R.on(DARK + "rule a;", "bend 0 4 8", "paint 365");
        signal("16, 64 and 128 are less than 8, 128 and 256", "1 2 2", 3, 208);
        R.on("town: wide 2;row ld;rule a stays 0;");
        signal("fewest: none", "0 0 1", 0, 0);
    }

    private static void signalLarge() {
        R.on(LARGE + "rule three born 3;");
        signal("the last three", "3 5 1", 3, 1 << 23 | 1 << 27 | 1 << 29);
        signal("the last PLACE", "4 5 0", 1, 1 << 29);
        signal("the first PLACE", "0 0 0", 1, 1);
        R.on(LARGE + "rule two born 2;");
        signal("the last two", "4 5 1", 2, 1 << 24 | 1 << 28);
        R.on(LARGE + "rule four born 4;");
        R.refuses("four would do", 6, "signal 3 4 1 0");
        R.on(LAST + "rule keep stays 0;");
        signal("the last alone can be turned", "4 5 30", 1, 1 << 29);
    }

    private static void signalRefused() {
        R.on(Rows.TAPED);
        R.refuses("x below 0", 1, "signal -1 0 0 0");
        R.refuses("x below 0 of a later ROW", 1, "signal -1 1 0 0");
        R.refuses("x is WIDE", 1, "signal 3 0 0 0");
        R.refuses("y below 0", 1, "signal 0 -1 0 0");
        R.refuses("y is ROWS", 1, "signal 0 2 0 0");
        R.refuses("NIGHTS below 0", 1, "signal 0 0 -1 0");
        R.refuses("31 NIGHTS", 1, "signal 0 0 31 0");
        R.refuses("what below 0", 1, "signal 0 0 0 -1");
        R.refuses("what above 1", 1, "signal 0 0 0 2");
        R.refuses("the largest", 1, "signal 0 0" + MAX + MAX);
        R.refuses("the least", 1, "signal" + MIN + MIN + " 0 0");
        R.refuses("no house", 7, "signal 2 0 0 0");
        R.refuses("1 ahead of 7", 1, "signal 2 0 31 0");
        R.refuses("always dark", 6, "signal 1 1 0 0");
        R.refuses("always dark, 30 NIGHTS", 6, "signal 1 1 30 1");
        R.refuses("1 ahead of 6", 1, "signal 1 1 0 2");
        R.on("town: wide 3;row dxn;row ddd;");
        R.refuses("7 ahead of 6", 7, "signal 2 0 1 0");
        R.refuses("without RULES", 6, "signal 0 0 1 1");
        R.gives("without RULES, 0 NIGHTS", "signal 0 0 0 0", 1);
    }

    private static void spoils() {
        R.on(DARK + SPREAD);
        R.gives("0 NIGHTS: itself", "spoils 1 1 0", 1);
        R.gives("1 NIGHT", "spoils 1 1 1", 5);
        R.gives("2 NIGHTS", "spoils 1 1 2", 9);
        R.gives("a corner", "spoils 0 0 1", 3);
        R.gives("30 NIGHTS", "spoils 2 2 30", 9);
        R.on(DARK + SPREAD, "paint 511");
        R.gives("nothing", "spoils 0 0 1", 0);
        R.gives("a lit one itself", "spoils 0 0 0", 1);
        R.on(LAST + "rule a stays 0;");
        R.gives("the last PLACE", "spoils 4 5 30", 1);
        R.on("town: wide 2;row dd;rule a born 0;");
        R.gives("those that go dark count, too", "spoils 0 0 1", 2);
        R.on("town: wide 2;row dd;");
        R.gives("without RULES", "spoils 0 0 1", 0);
    }

    private static void spoilsRefused() {
        R.on(Rows.TAPED);
        R.refuses("x below 0", 1, "spoils -1 0 0");
        R.refuses("x below 0 of a later ROW", 1, "spoils -1 1 0");
        R.refuses("x is WIDE", 1, "spoils 3 0 0");
        R.refuses("y below 0", 1, "spoils 0 -1 0");
        R.refuses("y is ROWS", 1, "spoils 0 2 0");
        R.refuses("NIGHTS below 0", 1, "spoils 0 0 -1");
        R.refuses("31 NIGHTS", 1, "spoils 0 0 31");
        R.refuses("the largest", 1, "spoils 0 0" + MAX);
        R.refuses("the least", 1, "spoils" + MIN + MIN + " 0");
        R.refuses("no house", 7, "spoils 2 0 0");
        R.refuses("always lit", 7, "spoils 0 1 0");
        R.refuses("always dark", 7, "spoils 1 1 30");
        R.refuses("1 ahead of 7", 1, "spoils 2 0 31");
    }

    private static void worst() {
        R.on(DARK + SPREAD);
        R.gives("0 NIGHTS: of all the first", "worst 0 0", 0);
        R.gives("0 NIGHTS", "worst 0 1", 1);
        R.gives("the middle", "worst 1 0", 4);
        R.gives("five", "worst 1 1", 5);
        R.gives("30 NIGHTS: of all the first", "worst 30 0", 0);
        R.gives("30 NIGHTS", "worst 30 1", 9);
        R.on("town: wide 3;row xnw;row xdl;");
        R.gives("the first that is not STUCK", "worst 0 0", 4);
        R.gives("none spoils: the first", "worst 1 0", 4);
        R.gives("none spoils", "worst 1 1", 0);
        R.on(LAST);
        R.gives("the last PLACE", "worst 0 0", 29);
        R.gives("the last PLACE", "worst 0 1", 1);
        R.on("town: wide 3;row wxn;");
        R.refuses("no lamp that is not STUCK", 6, "worst 0 0");
        R.refuses("no lamp that is not STUCK", 6, "worst 30 1");
        R.refuses("1 ahead of 6", 1, "worst 31 0");
        R.on(Rows.TAPED);
        R.refuses("NIGHTS below 0", 1, "worst -1 0");
        R.refuses("31 NIGHTS", 1, "worst 31 0");
        R.refuses("what below 0", 1, "worst 0 -1");
        R.refuses("what above 1", 1, "worst 0 2");
        R.refuses("the largest", 1, "worst" + MAX + " 0");
        R.refuses("the least", 1, "worst" + MIN + " 0");
    }

    private static void mend(String why, long picture, int unlike, int set) {
        R.gives(why, "mend " + picture + " 0", unlike);
        R.gives(why + ": the set", "mend " + picture + " 1", set);
    }

    private static void mend() {
        R.on(DARK + SPREAD);
        mend("by one", 186, 0, 16);
        mend("by none", 0, 0, 0);
        mend("of several that of the fewest lamps", 1, 1, 0);
        mend("by two, the least as a number", 511, 2, 4 + 8);
        R.on("town: wide 3;row ddd;" + SPREAD);
        mend("one in a row", 3, 0, 1);
        mend("one is fewer than two", 7, 0, 2);
        mend("never so", 5, 1, 2);
        R.on("town: wide 2;row dd;" + SPREAD);
        mend("the least of two", 3, 0, 1);
        mend("what is beyond does not count", 3 + 4 + 1024, 0, 1);
        R.on("town: wide 4;row lldd;" + STAYS);
        mend("as it is", 3, 0, 0);
        mend("by one", 1, 0, 2);
        mend("by two", 6, 0, 1 + 4);
        mend("not by three", 12, 2, 1 + 2);
        R.on("town: wide 3;row xnw;row ddd;");
        mend("a lamp told where no house is counts", 7, 2, 0);
        mend("as much as can be", ALL, 5, 0);
        R.on(Rows.TAPED);
        R.refuses("below 0", 1, "mend -1 0");
        R.refuses("above 1,073,741,823", 1, "mend 1073741824 0");
        R.refuses("it would be 0 if it were cut", 1, "mend 4294967296 0");
        R.refuses("the largest", 1, "mend " + Long.MAX_VALUE + " 0");
        R.refuses("the least", 1, "mend " + Long.MIN_VALUE + " 0");
        R.refuses("what below 0", 1, "mend 0 -1");
        R.refuses("what above 1", 1, "mend 0 2");
    }

    private static void mendLarge() {
        R.on(LARGE + STAYS);
        mend("the last two", 3 << 28, 0, 3 << 28);
        mend("the first and the last", 1 << 29 | 1, 0, 1 << 29 | 1);
        mend("all but two", ALL, 28, 3);
        R.on(LAST + STAYS);
        mend("the last alone", ALL, 29, 1 << 29);
    }

    private static void unlike() {
        R.on("town: wide 2;row ln;row wx;");
        R.gives("none", "unlike 5", 0);
        R.gives("where no house is", "unlike 7", 1);
        R.gives("where one is always dark", "unlike 13", 1);
        R.gives("nothing told", "unlike 0", 2);
        R.gives("all four", "unlike 10", 4);
        R.gives("what is beyond does not count", "unlike " + (5 + 16 + 1024), 0);
        R.gives("as much as can be told", "unlike " + ALL, 2);
        R.gives("all that is beyond", "unlike " + (ALL - 15), 2);
        R.on(LARGE);
        R.gives("all 30", "unlike " + ALL, 30);
        R.on(Rows.TAPED);
        R.refuses("below 0", 1, "unlike -1");
        R.refuses("above 1,073,741,823", 1, "unlike 1073741824");
        R.refuses("it would be 0 if it were cut", 1, "unlike 4294967296");
        R.refuses("the largest", 1, "unlike " + Long.MAX_VALUE);
        R.refuses("the least", 1, "unlike " + Long.MIN_VALUE);
    }

    private static void seenAll(String why, String dark, String lit) {
        for (int k = 0; k < 5; k++) {
            R.gives(why + ": dark, with so many", "seen 0 " + k, dark.charAt(k) - '0');
            R.gives(why + ": lit, with so many", "seen 1 " + k, lit.charAt(k) - '0');
        }
    }

    private static void seen() {
        R.on(MIDDLE + SPREAD, "ahead 5", "oil 5", "far 7", "brightest 9", "again 0", "walks 0", "next 0", "spoils 1 1 3");
        seenAll("nothing by what is AHEAD", "00000", "00000");
        R.on(MIDDLE + SPREAD, "turn 0 0", "paint 16", "elect");
        seenAll("nothing by hand", "00000", "00000");
        R.on(MIDDLE + SPREAD, "night 1");
        seenAll("one NIGHT", "12000", "20000");
        R.on(MIDDLE + SPREAD, "night 2");
        seenAll("two NIGHTS", "12200", "22002");
        R.on(MIDDLE + SPREAD, "night 3");
        seenAll("all lit", "12200", "22222");
        R.on(MIDDLE + SPREAD, "year: night 1;", "live 0");
        seenAll("a NIGHT of a YEAR", "12000", "20000");
        R.on(MIDDLE + SPREAD, "year: night 1;", "mean 0 1");
        seenAll("none by a mean", "00000", "00000");
        R.on("town: wide 3;row wdx;row nld;rule a born 1 2 stays 3;", "night 1");
        seenAll("not of STUCK ones, but by them", "02200", "10000");
    }

    private static void seenBoth() {
        R.on("town: wide 1;row d;rule a;", "night 1");
        seenAll("dark", "10000", "00000");
        R.on("town: wide 1;row d;rule a;", "night 1", "bend 0 1 1", "night 1");
        seenAll("of a dark one both, by whatever RULE", "30000", "00000");
        R.on("town: wide 1;row d;rule a;", "night 1", "bend 0 1 1", "night 1", "night 1");
        seenAll("and lit", "30000", "20000");
        R.on("town: wide 1;row l;rule a stays 0;", "night 1", "bend 0 0 0", "night 1");
        seenAll("of a lit one both", "00000", "30000");
        R.on("town: wide 1;row l;rule a;rule b stays 0;", "night 1", "turn 0 0", "mayor 1", "night 1");
        seenAll("of a lit one both, by two RULES", "00000", "30000");
    }

    private static void seenRefused() {
        R.on(Rows.TAPED);
        R.refuses("state below 0", 1, "seen -1 0");
        R.refuses("state above 1", 1, "seen 2 0");
        R.refuses("NEIGHBOURS below 0", 1, "seen 0 -1");
        R.refuses("5 NEIGHBOURS", 1, "seen 0 5");
        R.refuses("below 0 of lit ones", 1, "seen 1 -1");
        R.refuses("5 of lit ones", 1, "seen 1 5");
        R.refuses("the largest", 1, "seen" + MAX + MAX);
        R.refuses("the least", 1, "seen" + MIN + MIN);
    }

    private static void rulesLeft() {
        R.on(MIDDLE + SPREAD);
        R.gives("all that there could be", "rulesLeft", 1024);
        R.on(MIDDLE + SPREAD, "night 1");
        R.gives("three are known", "rulesLeft", 128);
        R.on(MIDDLE + SPREAD, "night 2");
        R.gives("six are known", "rulesLeft", 16);
        R.on(MIDDLE + SPREAD, "night 3", "paint 170", "night 1", "paint 493", "night 1", "paint 325", "night 1",
            "paint 509", "night 1");
        R.gives("all are known", "rulesLeft", 1);
        R.on("town: wide 1;row d;rule a;", "night 1", "bend 0 1 1", "night 1");
        R.gives("both were SEEN of dark ones", "rulesLeft", 0);
        R.on("town: wide 1;row l;rule a;", "night 1", "bend 0 0 1", "turn 0 0", "night 1");
        R.gives("both were SEEN of lit ones", "rulesLeft", 0);
    }

    private static void fits() {
        String town = MIDDLE + SPREAD + "rule b;rule c born 1 stays 0;rule d born 0 1 stays 0;";
        R.on(town);
        R.gives("all", "fits", 15);
        R.on(town, "night 1");
        R.gives("the first and the third", "fits", 5);
        R.on(town, "night 1", "bend 1 2 1");
        R.gives("the second is bent so", "fits", 7);
        R.on(town, "night 1", "bend 0 0 31");
        R.gives("the first is bent so", "fits", 4);
        R.on(DARK + "rule a;rule b;", "paint 170", "bend 0 16 0", "night 1", "bend 0 0 0");
        R.gives("dark ones with 4 were SEEN lit", "fits", 0);
        R.on(DARK + "rule a;rule b;", "paint 186", "bend 0 0 16", "night 1");
        R.gives("lit ones with 4 were SEEN lit", "fits", 1);
        R.on("town: wide 1;row d;rule a;", "night 1", "bend 0 1 1", "night 1");
        R.gives("both were SEEN", "fits", 0);
        R.on(DARK);
        R.gives("no RULES", "fits", 0);
    }

    private static void forget() {
        R.on(MIDDLE + SPREAD);
        R.gives("nothing was SEEN", "forget", 0);
        R.on(MIDDLE + SPREAD, "night 1");
        R.gives("three", "forget", 3, "rulesLeft = 1024", "seen 0 0 = 0", "seen 0 1 = 0", "seen 1 0 = 0", "forget = 0",
            "told 7 = 1", "told 8 = 1", "picture = 186");
        R.on(MIDDLE + SPREAD, "night 3");
        R.gives("eight", "forget", 8, "seen 1 4 = 0", "rulesLeft = 1024");
        R.on("town: wide 1;row d;rule a;", "night 1", "bend 0 1 1", "night 2");
        R.gives("both counts once", "forget", 2, "rulesLeft = 1024");
    }

    private static void shows() {
        R.on(MIDDLE + SPREAD);
        R.gives("dark with 0, 1, lit with 0", "shows", 3);
        R.on(MIDDLE + SPREAD, "night 1");
        R.gives("three others", "shows", 3);
        R.on(MIDDLE + SPREAD, "night 2");
        R.gives("lit with 2, 3", "shows", 2);
        R.on(MIDDLE + SPREAD, "night 3");
        R.gives("nothing", "shows", 0);
        R.on(MIDDLE + SPREAD, "night 3", "bend 0 0 0");
        R.gives("it was SEEN, though not so", "shows", 0);
        R.on(MIDDLE + SPREAD, "night 3", "forget");
        R.gives("lit with 2, 3, 4", "shows", 3);
        R.on("town: wide 3;row wdx;");
        R.gives("of those that are not STUCK", "shows", 1);
        R.on("town: wide 3;row wnx;");
        R.gives("none is not STUCK", "shows", 0);
    }

    /** By RULE 0 none, by RULE 1 five, by RULE 2 one would be lit. */
    private static final String VOTERS = MIDDLE + "rule a;" + SPREAD + "rule c stays 0;"
        + "citizen d likes 5 to 9;citizen e likes 1 to 1;citizen f likes 0 to 30;citizen g likes 3 to 3;"
        + "citizen h likes 7 to 9;citizen i likes 2 to 2;";

    private static void vote() {
        R.on(VOTERS);
        R.gives("5 to 9: as many as the least", "vote 0", 1);
        R.gives("1 to 1", "vote 1", 2);
        R.gives("0 to 30: the first", "vote 2", 0);
        R.gives("3: 5 is as near as 1, the first", "vote 3", 1);
        R.gives("7 to 9: the nearest", "vote 4", 1);
        R.gives("2: 1 is the nearest", "vote 5", 2);
        R.refuses("below 0", 1, "vote -1");
        R.refuses("more than there are", 1, "vote 6");
        R.refuses("the largest", 1, "vote" + MAX);
        R.refuses("the least", 1, "vote" + MIN);
        R.on(MIDDLE + "rule a;" + SPREAD + "citizen b likes 4 to 5;citizen c likes 0 to 4;citizen d likes 6 to 7;");
        R.gives("4 to 5: as many as the most", "vote 0", 1);
        R.gives("0 to 4: one more is too many", "vote 1", 0);
        R.gives("6 to 7: one less is the nearest", "vote 2", 1);
        R.on("town: wide 2;row ld;rule a;rule b born 1 stays 0;citizen c likes 1 to 1;");
        R.gives("above and below, the first of the nearest", "vote 0", 0);
        R.on("town: wide 2;row ld;rule b born 1 stays 0;rule a;citizen c likes 1 to 1;");
        R.gives("below and above, the first of the nearest", "vote 0", 0);
        R.on("town: wide 2;row ld;rule a;rule b stays 0;rule c born 1;citizen d likes 1 to 1;");
        R.gives("the first of two that are right", "vote 0", 1);
        R.on(LARGE + "rule a;rule b;rule c;rule d born 0;citizen e likes 30 to 30;");
        R.gives("the last RULE, 30", "vote 0", 3);
        R.on(MIDDLE + "citizen a likes 1 to 2;");
        R.refuses("no RULES", 6, "vote 0");
        R.refuses("1 ahead of 6", 1, "vote 1");
    }

    private static void votes() {
        R.on(VOTERS);
        R.gives("one", "votes 0", 1);
        R.gives("three", "votes 1", 3);
        R.gives("two", "votes 2", 2);
        R.refuses("below 0", 1, "votes -1");
        R.refuses("more than there are", 1, "votes 3");
        R.refuses("the largest", 1, "votes" + MAX);
        R.refuses("the least", 1, "votes" + MIN);
        R.on(MIDDLE + "rule a;");
        R.gives("no CITIZENS", "votes 0", 0);
        R.on(MIDDLE + "citizen a likes 1 to 1;");
        R.refuses("no RULES", 1, "votes 0");
        R.on("town: wide 1;row d;rule a;rule b;rule c;rule d;citizen e likes 0 to 0;citizen f likes 0 to 0;"
            + "citizen g likes 0 to 0;citizen h likes 0 to 0;citizen i likes 0 to 0;citizen j likes 0 to 0;");
        R.gives("all six", "votes 0", 6);
        R.gives("none", "votes 3", 0);
    }

    private static void elect() {
        R.on(VOTERS);
        R.gives("the most votes", "elect", 1, "told 10 = 1", "picture = 16", "told 7 = 0", "ahead 1 = 186");
        String tie = MIDDLE + "rule a stays 0;rule b;" + SPREAD + "citizen c likes 5 to 5;citizen d likes 0 to 0;";
        R.on(tie);
        R.gives("of several the first", "elect", 1, "told 10 = 1");
        R.on(tie, "mayor 2", "paint 0");
        R.gives("all would be dark: the first", "elect", 0, "told 10 = 0");
        R.on(MIDDLE + "rule a;rule b;", "mayor 1");
        R.refuses("no CITIZENS", 6, "elect");
        R.on(MIDDLE + "citizen a likes 1 to 1;");
        R.refuses("no RULES", 6, "elect");
        R.on();
        R.refuses("neither", 6, "elect");
        R.on(LARGE + "rule a;rule b;rule c;rule d born 0;citizen e likes 30 to 30;");
        R.gives("the last RULE by one vote", "elect", 3, "told 10 = 3", "night 1 = 30");
    }

    private static void reads() {
        R.on("town: wide 3;row lnd;row wxl;");
        R.gives("the first ROW", "reads 0 0", 1);
        R.gives("the last ROW", "reads 1 0", 5);
        R.gives("the first column", "reads 0 1", 3);
        R.gives("a column without a lit lamp", "reads 1 1", 0);
        R.gives("the last column", "reads 2 1", 2);
        R.refuses("a ROW below 0", 1, "reads -1 0");
        R.refuses("a ROW more than there are", 1, "reads 2 0");
        R.refuses("a column below 0", 1, "reads -1 1");
        R.refuses("a column more than there are", 1, "reads 3 1");
        R.refuses("what below 0", 1, "reads 0 -1");
        R.refuses("what above 1", 1, "reads 0 2");
        R.refuses("the largest ROW", 1, "reads" + MAX + " 0");
        R.refuses("the least column", 1, "reads" + MIN + " 1");
        R.on(LARGE, "paint " + ALL);
        R.gives("a column of 6", "reads 4 1", 63);
        R.gives("a ROW of 5", "reads 5 0", 31);
        R.refuses("a seventh ROW", 1, "reads 6 0");
        R.refuses("a sixth column", 1, "reads 5 1");
        R.on(Rows.TAPED);
        R.refuses("a ROW more than there are", 1, "reads 2 0");
    }

    private static void mirror() {
        String[] are = {"wide 1;row l;", "wide 2;row dd;row ll;", "wide 3;row ldl;row dld;", "wide 3;row wnl;",
            "wide 5;row lwxwl;row dldln;", "wide 4;row xnnd;", "wide 2;row nd;", "wide 4 ring;row dlld;"};
        for (String town : are) {
            R.on("town: " + town);
            R.gives(town, "mirror", 1);
        }
        String[] not = {"wide 2;row ld;", "wide 3;row ldl;row ldd;", "wide 4;row dldd;", "wide 2;row wn;",
            "wide 2;row dd;row dd;row dd;row dd;row dd;row dl;", "wide 5;row lddll;", "wide 3;row ddl;row ldd;",
            "wide 2;row ld;row dl;"};
        for (String town : not) {
            R.on("town: " + town);
            R.gives(town, "mirror", 0);
        }
    }

    private static void heaps(String why, int many, int largest) {
        R.gives(why, "heaps 0", many);
        R.gives(why + ": the largest", "heaps 1", largest);
    }

    private static void heaps() {
        R.on("town: wide 5;row lldwl;row dndll;row ldddd;");
        heaps("three", 3, 4);
        R.on("town: wide 2;row dx;");
        heaps("none is lit", 0, 0);
        R.on("town: wide 3 ring;row ldl;row dll;");
        heaps("by the RING", 1, 4);
        R.on("town: wide 3;row ldl;row dll;");
        heaps("without one", 2, 3);
        R.on("town: wide 5 ring;row dddld;row ldddl;row ddldd;");
        heaps("a RING joins the ends alone", 3, 2);
        R.on("town: wide 5 ring;row ldddd;row ddddl;row ddldd;");
        heaps("a RING joins the ends of one ROW", 3, 1);
        R.on("town: wide 2;row ld;row dl;");
        heaps("not across a corner", 2, 1);
        R.on("town: wide 5;row ddddl;row ldddd;");
        heaps("not from a ROW's end to the next ROW", 2, 1);
        R.on("town: wide 5;row lllll;row ddddl;row lllll;row ldddd;row lllll;row ddddl;");
        heaps("a snake", 1, 18);
        R.on("town: wide 5;row ldldl;row dldld;row ldldl;row dldld;row ldldl;row dldld;");
        heaps("as many as there can be", 15, 1);
        R.on(LARGE, "paint " + ALL);
        heaps("as large as can be", 1, 30);
        R.on(Rows.TAPED);
        R.refuses("-1", 1, "heaps -1");
        R.refuses("2", 1, "heaps 2");
        R.refuses("the largest", 1, "heaps" + MAX);
        R.refuses("the least", 1, "heaps" + MIN);
    }

    private static void heap() {
        R.on("town: wide 5;row lldwl;row dndll;row ldddd;");
        int[][] due = {{0, 0, 2}, {1, 0, 2}, {2, 0, 0}, {3, 0, 4}, {4, 1, 4}, {0, 2, 1}, {0, 1, 0}};
        for (int[] d : due) {
            R.gives("of a lamp, 0 of a dark one", "heap " + d[0] + " " + d[1], d[2]);
        }
        R.on("town: wide 4 ring;row lddl;row dddl;");
        R.gives("by the RING, to the left", "heap 0 0", 3);
        R.gives("by the RING, to the right", "heap 3 1", 3);
        R.on("town: wide 5 ring;row lddld;row ddddl;row ddldd;");
        R.gives("ends that are lit are no NEIGHBOURS of all", "heap 2 2", 1);
        R.gives("an end whose other end is dark", "heap 0 0", 1);
        R.on("town: wide 4;row lddl;row dddl;");
        R.gives("without one", "heap 0 0", 1);
        R.on("town: wide 1;row x;");
        R.gives("always dark", "heap 0 0", 0);
        R.on(LARGE, "paint " + ALL);
        R.gives("all 30, from the last PLACE", "heap 4 5", 30);
        R.on(Rows.TAPED);
        R.refuses("x below 0", 1, "heap -1 0");
        R.refuses("x below 0 of a later ROW", 1, "heap -1 1");
        R.refuses("x is WIDE", 1, "heap 3 0");
        R.refuses("y below 0", 1, "heap 0 -1");
        R.refuses("y is ROWS", 1, "heap 0 2");
        R.refuses("the largest", 1, "heap" + MAX + MAX);
        R.refuses("the least", 1, "heap" + MIN + MIN);
        R.refuses("no house", 7, "heap 2 0");
    }

    private static void company(String town, long top, long bottom) {
        R.on("town: " + town);
        R.tells(town, "company", top, bottom);
    }

    private static void company() {
        company("wide 3;row lll;", 4, 3);
        company("wide 3;row ldl;", 0, 1);
        company("wide 1;row w;", 0, 1);
        company("wide 2;row lw;row ll;", 2, 1);
        company("wide 3 ring;row lll;", 2, 1);
        company("wide 2 ring;row ll;", 1, 1);
        company("wide 2;row ll;row ld;row dd;", 4, 3);
        company("wide 2;row lx;row ll;row dd;row dl;", 1, 1);
        company("wide 5;row lllll;row lllll;row lllll;row lllll;row lllll;row lllll;", 49, 15);
        company("wide 5 ring;row lllll;row lllll;row lllll;row lllll;row lllll;row lllll;", 11, 3);
        R.on("town: wide 2;row ll;", "company", "paint 0");
        R.refuses("none is lit", 6, "company");
        R.on();
        R.refuses("none is lit, ahead of any FRACTION", 6, "company");
    }
}
