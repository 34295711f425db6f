/** Promises 33 to 55: what was, lamps turned, what was SEEN, ELECTIONS, SHIPS. */
public final class WhatTests {
    private static final Checks C = new Checks();
    private static final String SPREAD = "rule spread born 1 2 3 4 stays 0 1 2 3 4;";
    private static final String DARK = "wide 3;row ddd;row ddd;row ddd;";
    private static final String MIDDLE = "wide 3;row ddd;row dld;row ddd;";
    private static final String LARGE = "wide 5;row ddddd;row ddddd;row ddddd;row ddddd;row ddddd;row ddddd;";
    private static final int ALL = (1 << 30) - 1;

    public static void main(String[] args) {
        C.test("33, 34 ancestors", WhatTests::ancestors);
        C.test("33, 34 an ORPHAN", WhatTests::orphan);
        C.test("33, 34 ancestors, large", WhatTests::largeAncestors);
        C.test("35, 36 stills", WhatTests::stills);
        C.test("37 pictures", WhatTests::pictures);
        C.test("38 signal", WhatTests::signal);
        C.test("38 signal, wrong", WhatTests::signalWrong);
        C.test("39 spoils", WhatTests::spoils);
        C.test("40 worst", WhatTests::worst);
        C.test("41 mend", WhatTests::mend);
        C.test("42 unlike", WhatTests::unlike);
        C.test("43 seen", WhatTests::seen);
        C.test("43, 44 both seen", WhatTests::bothSeen);
        C.test("44 rulesLeft", WhatTests::rulesLeft);
        C.test("45 fits", WhatTests::fits);
        C.test("46 forget", WhatTests::forget);
        C.test("47 shows", WhatTests::shows);
        C.test("48 vote", WhatTests::vote);
        C.test("49 votes", WhatTests::votes);
        C.test("50 elect", WhatTests::elect);
        C.test("51 reads", WhatTests::reads);
        C.test("52 mirror", WhatTests::mirror);
        C.test("53 heaps", WhatTests::heaps);
        C.test("54 heap", WhatTests::heap);
        C.test("55 company", WhatTests::company);
        C.end();
    }

    private static void ancestors() {
        WindowHill h = Checks.hill("wide 3;row lll;" + SPREAD);
        C.asked(h, "with the middle one, or both others", h::ancestors, 5);
        C.asked(h, "FIRST", h::ancestor, 2);
        WindowHill dark = Checks.hill("wide 3;row ddd;" + SPREAD);
        C.asked(dark, "the dark one alone", dark::ancestors, 1);
        C.asked(dark, "FIRST", dark::ancestor, 0);
        WindowHill stuck = Checks.hill("wide 3;row lwl;" + SPREAD);
        C.asked(stuck, "by a STUCK one", stuck::ancestors, 4);
        C.asked(stuck, "FIRST", stuck::ancestor, 2);
        WindowHill none = Checks.hill("wide 3;row dwn;row xdd;");
        C.asked(none, "without RULES", none::ancestors, 8);
        C.asked(none, "FIRST", none::ancestor, 2);
        WindowHill gaps = Checks.hill("wide 1;row n;");
        C.asked(gaps, "no house", gaps::ancestors, 1);
        WindowHill ring = Checks.hill("wide 3 ring;row lll;" + SPREAD);
        C.asked(ring, "a RING", ring::ancestors, 7);
        C.asked(ring, "FIRST", ring::ancestor, 1);
    }

    private static void orphan() {
        WindowHill h = Checks.hill("wide 3;row ldl;" + SPREAD);
        C.asked(h, "none", h::ancestors, 0);
        C.refused(h, 6, "ORPHAN", h::ancestor);
        WindowHill none = Checks.hill("wide 2;row ld;");
        C.asked(none, "without RULES", none::ancestors, 0);
        C.refused(none, 6, "ORPHAN", none::ancestor);
        WindowHill stuck = Checks.hill("wide 2;row dw;" + SPREAD);
        C.refused(stuck, 6, "by a STUCK one", stuck::ancestor);
    }

    private static void largeAncestors() {
        WindowHill h = Checks.hill(LARGE + "rule a;rule b stays 0 1 2 3 4;rule c born 0 1 2 3 4;");
        C.asked(h, "all become dark", h::ancestors, 1 << 30);
        C.asked(h, "FIRST", h::ancestor, 0);
        h.paint(123456789);
        C.asked(h, "none becomes so", h::ancestors, 0);
        h.mayor(1);
        C.asked(h, "itself", h::ancestors, 1);
        C.asked(h, "FIRST", h::ancestor, 123456789);
        h.mayor(2);
        C.asked(h, "the turned one", h::ancestors, 1);
        C.asked(h, "FIRST", h::ancestor, ALL - 123456789);
    }

    private static void stills() {
        WindowHill h = Checks.hill(MIDDLE + SPREAD);
        C.asked(h, "dark or all lit", h::stills, 2);
        C.asked(h, "least", h::firstStill, 0);
        WindowHill born = Checks.hill("wide 1;row d;row d;row d;rule a born 0 stays 0;");
        C.asked(born, "ends lit or the middle", born::stills, 2);
        C.asked(born, "least", born::firstStill, 2);
        WindowHill none = Checks.hill("wide 1;row d;rule a born 0;");
        C.asked(none, "none", none::stills, 0);
        C.refused(none, 6, "none", none::firstStill);
        WindowHill all = Checks.hill(LARGE + "rule b stays 0 1 2 3 4;");
        C.asked(all, "all", all::stills, 1 << 30);
        C.asked(all, "least", all::firstStill, 0);
        all.bend(0, 31, 31);
        C.asked(all, "all lit", all::stills, 1);
        C.asked(all, "least", all::firstStill, ALL);
        WindowHill stuck = Checks.hill("wide 3;row wxl;");
        C.asked(stuck, "without RULES", stuck::stills, 1);
        C.asked(stuck, "least", stuck::firstStill, 1);
    }

    private static void pictures() {
        WindowHill one = new WindowHill();
        C.asked(one, "one house", one::pictures, 2);
        WindowHill h = Checks.hill("wide 5;row dlnwx;row ddddd;");
        C.asked(h, "7 lamps", h::pictures, 128);
        WindowHill all = Checks.hill(LARGE);
        C.asked(all, "30", all::pictures, 1 << 30);
        WindowHill none = Checks.hill("wide 3;row nwx;");
        C.asked(none, "none", none::pictures, 1);
    }

    private static void signal(WindowHill h, int x, int y, int nights, int many, int set) {
        C.asked(h, "signal, how many", () -> h.signal(x, y, nights, 0), many);
        C.asked(h, "signal, the set", () -> h.signal(x, y, nights, 1), set);
    }

    private static void signal() {
        WindowHill h = Checks.hill(DARK + SPREAD + "rule one born 1;rule three born 3;rule four born 4;");
        signal(h, 0, 0, 2, 1, 1);
        signal(h, 2, 2, 1, 1, 32);
        signal(h, 2, 2, 2, 1, 4);
        signal(h, 2, 2, 4, 1, 1);
        signal(h, 2, 2, 30, 1, 1);
        signal(h, 2, 2, 0, 1, 256);
        h.mayor(1);
        signal(h, 0, 0, 1, 1, 2);
        h.mayor(2);
        signal(h, 1, 0, 1, 3, 1 + 4 + 16);
        signal(h, 1, 1, 1, 3, 2 + 8 + 32);
        h.mayor(3);
        C.refused(h, 6, "not by three", () -> h.signal(1, 1, 1, 0));
        C.refused(h, 6, "by none", () -> h.signal(0, 0, 1, 1));
        h.turn(1, 0);
        signal(h, 1, 1, 1, 3, 8 + 32 + 128);
        signal(h, 1, 0, 0, 0, 0);
        WindowHill stuck = Checks.hill("wide 3;row wxd;rule a born 1 stays 0;");
        signal(stuck, 0, 0, 30, 0, 0);
        C.refused(stuck, 6, "always dark", () -> stuck.signal(1, 0, 5, 0));
        signal(stuck, 2, 0, 5, 1, 4);
        WindowHill two = Checks.hill("wide 3;row dld;row dld;rule a born 2;");
        // (0,0) wants two lit beside and below: (0,1) has to be turned
        signal(two, 0, 0, 1, 1, 8);
        signal(two, 1, 0, 1, 2, 1 + 2);
    }

    private static void signalWrong() {
        WindowHill h = Checks.hill("wide 3;row dxn;row ddd;");
        int[][] wrong = {{1, -1, 0, 0, 0}, {1, 3, 0, 0, 0}, {1, 0, -1, 0, 0}, {1, 0, 2, 0, 0}, {1, 0, 0, -1, 0},
            {1, 0, 0, 31, 0}, {1, 0, 0, 0, -1}, {1, 0, 0, 0, 2}, {1, 2, 0, 31, 0}, {7, 2, 0, 0, 0}, {7, 2, 0, 30, 1},
            {6, 1, 0, 0, 0}, {6, 0, 0, 1, 1}};
        for (int[] w : wrong) {
            C.refused(h, w[0], "signal " + w[1] + " " + w[2] + " " + w[3] + " " + w[4],
                () -> h.signal(w[1], w[2], w[3], w[4]));
        }
    }

    private static void spoils() {
        WindowHill h = Checks.hill(DARK + SPREAD);
        C.asked(h, "0", () -> h.spoils(1, 1, 0), 1);
        C.asked(h, "1", () -> h.spoils(1, 1, 1), 5);
        C.asked(h, "2", () -> h.spoils(1, 1, 2), 9);
        C.asked(h, "corner", () -> h.spoils(0, 0, 1), 3);
        C.asked(h, "30", () -> h.spoils(0, 0, 30), 9);
        h.paint(511);
        C.asked(h, "nothing", () -> h.spoils(0, 0, 1), 0);
        C.asked(h, "the lit one itself", () -> h.spoils(0, 0, 0), 1);
        C.asked(h, "the first lit one", () -> h.worst(0, 1), 1);
        WindowHill odd = Checks.hill("wide 3;row dxn;row wdd;");
        int[][] wrong = {{1, -1, 0, 0}, {1, 3, 0, 0}, {1, 0, 2, 0}, {1, 0, -1, 0}, {1, 0, 0, -1}, {1, 0, 0, 31},
            {1, 2, 0, 31}, {7, 1, 0, 0}, {7, 2, 0, 0}, {7, 0, 1, 30}};
        for (int[] w : wrong) {
            C.refused(odd, w[0], "spoils " + w[1] + " " + w[2] + " " + w[3], () -> odd.spoils(w[1], w[2], w[3]));
        }
    }

    private static void worst() {
        WindowHill h = Checks.hill(DARK + SPREAD);
        C.asked(h, "the first of all", () -> h.worst(0, 0), 0);
        C.asked(h, "one", () -> h.worst(0, 1), 1);
        C.asked(h, "the middle", () -> h.worst(1, 0), 4);
        C.asked(h, "five", () -> h.worst(1, 1), 5);
        C.asked(h, "the first", () -> h.worst(30, 0), 0);
        C.asked(h, "nine", () -> h.worst(30, 1), 9);
        WindowHill odd = Checks.hill("wide 3;row xnw;row xdl;");
        C.asked(odd, "the first that is not STUCK", () -> odd.worst(0, 0), 4);
        C.asked(odd, "none spoils", () -> odd.worst(1, 0), 4);
        C.asked(odd, "nothing", () -> odd.worst(1, 1), 0);
        C.refused(h, 1, "nights", () -> h.worst(-1, 0));
        C.refused(h, 1, "nights", () -> h.worst(31, 0));
        C.refused(h, 1, "what", () -> h.worst(0, -1));
        C.refused(h, 1, "what", () -> h.worst(0, 2));
        WindowHill stuck = Checks.hill("wide 3;row wxn;");
        C.refused(stuck, 6, "all STUCK", () -> stuck.worst(0, 0));
        C.refused(stuck, 1, "1 ahead of 6", () -> stuck.worst(31, 0));
    }

    private static void mend(WindowHill h, long picture, int unlike, int set) {
        C.asked(h, "mend " + picture, () -> h.mend(picture, 0), unlike);
        C.asked(h, "mend " + picture + ", the set", () -> h.mend(picture, 1), set);
    }

    private static void mend() {
        WindowHill h = Checks.hill(DARK + SPREAD);
        mend(h, 186, 0, 16);
        mend(h, 0, 0, 0);
        mend(h, 1, 1, 0);
        mend(h, 511, 2, 4 + 8);
        WindowHill row = Checks.hill("wide 3;row ddd;" + SPREAD);
        mend(row, 3, 0, 1);
        mend(row, 7, 0, 2);
        mend(row, 5, 1, 2);
        WindowHill two = Checks.hill("wide 2;row dd;" + SPREAD);
        mend(two, 3, 0, 1);
        mend(two, 3 + 4 + 1024, 0, 1);
        WindowHill stays = Checks.hill("wide 4;row lldd;rule a stays 0 1 2 3 4;");
        mend(stays, 3, 0, 0);
        mend(stays, 1, 0, 2);
        mend(stays, 6, 0, 1 + 4);
        mend(stays, 12, 2, 1 + 2);
        WindowHill odd = Checks.hill("wide 3;row xnw;row ddd;");
        mend(odd, 7, 2, 0);
        mend(odd, 63, 5, 0);
        mend(odd, ALL, 5, 0);
        C.refused(h, 1, "-1", () -> h.mend(-1, 0));
        C.refused(h, 1, "2^30", () -> h.mend(1 << 30, 0));
        C.refused(h, 1, "2^32", () -> h.mend(1L << 32, 0));
        C.refused(h, 1, "what", () -> h.mend(0, -1));
        C.refused(h, 1, "what", () -> h.mend(0, 2));
    }

    private static void unlike() {
        WindowHill h = Checks.hill("wide 2;row ln;row wx;");
        int[][] due = {{5, 0}, {7, 1}, {15, 2}, {0, 2}, {10, 4}, {5 + 16 + 1024, 0}, {ALL, 2}, {ALL - 15, 2}};
        for (int[] d : due) {
            C.asked(h, "unlike " + d[0], () -> h.unlike(d[0]), d[1]);
        }
        for (long wrong : new long[] {-1, 1 << 30, 1L << 32, Long.MAX_VALUE, Long.MIN_VALUE}) {
            C.refused(h, 1, "unlike " + wrong, () -> h.unlike(wrong));
        }
    }

    private static void seenAll(WindowHill h, String dark, String lit) {
        for (int k = 0; k < 5; k++) {
            int n = k;
            C.asked(h, "seen dark " + k, () -> h.seen(0, n), dark.charAt(k) - '0');
            C.asked(h, "seen lit " + k, () -> h.seen(1, n), lit.charAt(k) - '0');
        }
    }

    private static void seen() {
        WindowHill h = Checks.hill(MIDDLE + SPREAD);
        h.ahead(5);
        h.oil(5);
        seenAll(h, "00000", "00000");
        h.night(1);
        seenAll(h, "12000", "20000");
        h.night(1);
        seenAll(h, "12200", "22002");
        WindowHill odd = Checks.hill("wide 3;row wdx;row nld;rule a born 1 2 stays 3;");
        odd.night(1);
        seenAll(odd, "02200", "10000");
        int[][] wrong = {{-1, 0}, {2, 0}, {0, -1}, {0, 5}};
        for (int[] w : wrong) {
            C.refused(h, 1, "seen", () -> h.seen(w[0], w[1]));
        }
    }

    private static void bothSeen() {
        WindowHill h = Checks.hill("wide 1;row d;rule a;");
        h.night(1);
        seenAll(h, "10000", "00000");
        h.bend(0, 1, 1);
        h.night(1);
        seenAll(h, "30000", "00000");
        C.asked(h, "RULES LEFT", h::rulesLeft, 0);
        C.asked(h, "fits", h::fits, 0);
        h.night(1);
        seenAll(h, "30000", "20000");
        C.asked(h, "RULES LEFT", h::rulesLeft, 0);
        C.done(h, "forget", h::forget, 2);
        C.asked(h, "RULES LEFT", h::rulesLeft, 1024);
    }

    private static void rulesLeft() {
        WindowHill h = Checks.hill(MIDDLE + SPREAD);
        C.asked(h, "all", h::rulesLeft, 1024);
        h.night(1);
        C.asked(h, "three known", h::rulesLeft, 128);
        h.night(1);
        C.asked(h, "six known", h::rulesLeft, 16);
    }

    private static void fits() {
        WindowHill h = Checks.hill(MIDDLE + SPREAD + "rule b;rule c born 1 stays 0;rule d born 0 1 stays 0;");
        C.asked(h, "all", h::fits, 15);
        h.night(1);
        C.asked(h, "a, c", h::fits, 5);
        h.bend(1, 2, 1);
        C.asked(h, "b bent", h::fits, 7);
        h.bend(0, 0, 31);
        C.asked(h, "a bent", h::fits, 6);
        WindowHill none = Checks.hill(DARK);
        C.asked(none, "no RULES", none::fits, 0);
    }

    private static void forget() {
        WindowHill h = Checks.hill(MIDDLE + SPREAD);
        C.done(h, "nothing", h::forget, 0);
        h.night(1);
        C.done(h, "three", h::forget, 3);
        seenAll(h, "00000", "00000");
        C.done(h, "nothing", h::forget, 0);
        C.due("NIGHT stays", h.told(7), 1);
        C.due("OIL stays", h.told(8), 1);
    }

    private static void shows() {
        WindowHill h = Checks.hill(MIDDLE + SPREAD);
        C.asked(h, "three", h::shows, 3);
        h.night(1);
        C.asked(h, "three others", h::shows, 3);
        h.night(1);
        C.asked(h, "lit with 2, 3", h::shows, 2);
        h.night(1);
        C.asked(h, "nothing", h::shows, 0);
        h.bend(0, 0, 0);
        C.asked(h, "it was seen, though not so", h::shows, 0);
        h.forget();
        C.asked(h, "with 2, 3, 4", h::shows, 3);
        WindowHill stuck = Checks.hill("wide 3;row wdx;");
        C.asked(stuck, "of those that are not STUCK", stuck::shows, 1);
    }

    /** By RULE 0 none, by RULE 1 five, by RULE 2 one would be lit. */
    private static final String VOTERS = MIDDLE + "rule a;" + SPREAD + "rule c stays 0;"
        + "citizen d likes 5 to 9;citizen e likes 1 to 1;citizen f likes 0 to 30;citizen g likes 3 to 3;"
        + "citizen h likes 7 to 9;citizen i likes 2 to 2;";

    private static void vote() {
        WindowHill h = Checks.hill(VOTERS);
        int[] due = {1, 2, 0, 1, 1, 2};
        for (int k = 0; k < 6; k++) {
            int citizen = k;
            C.asked(h, "vote " + k, () -> h.vote(citizen), due[k]);
        }
        C.refused(h, 1, "-1", () -> h.vote(-1));
        C.refused(h, 1, "6", () -> h.vote(6));
        WindowHill none = Checks.hill(MIDDLE + "citizen a likes 1 to 2;");
        C.refused(none, 6, "no RULES", () -> none.vote(0));
        C.refused(none, 1, "1 ahead of 6", () -> none.vote(1));
        WindowHill tie = Checks.hill("wide 2;row ld;rule a;rule b born 1 stays 0;citizen c likes 1 to 1;");
        C.asked(tie, "the first of the nearest", () -> tie.vote(0), 0);
    }

    private static void votes() {
        WindowHill h = Checks.hill(VOTERS);
        C.asked(h, "votes 0", () -> h.votes(0), 1);
        C.asked(h, "votes 1", () -> h.votes(1), 3);
        C.asked(h, "votes 2", () -> h.votes(2), 2);
        C.refused(h, 1, "-1", () -> h.votes(-1));
        C.refused(h, 1, "3", () -> h.votes(3));
        WindowHill none = Checks.hill(MIDDLE + "rule a;");
        C.asked(none, "no CITIZENS", () -> none.votes(0), 0);
        WindowHill rules = Checks.hill(MIDDLE + "citizen a likes 1 to 1;");
        C.refused(rules, 1, "no RULES", () -> rules.votes(0));
    }

    private static void elect() {
        WindowHill h = Checks.hill(VOTERS);
        C.done(h, "elect", h::elect, 1);
        C.due("mayor", h.told(10), 1);
        C.due("picture", h.picture(), 16);
        C.due("no NIGHT", h.told(7), 0);
        C.due("the next one", h.ahead(1), 186);
        WindowHill tie = Checks.hill(MIDDLE + "rule a stays 0;rule b;" + SPREAD
            + "citizen c likes 5 to 5;citizen d likes 0 to 0;");
        C.done(tie, "of several the first", tie::elect, 1);
        tie.paint(0);
        C.done(tie, "all would be dark", tie::elect, 0);
        WindowHill none = Checks.hill(MIDDLE + "rule a;rule b;");
        none.mayor(1);
        C.refused(none, 6, "no CITIZENS", none::elect);
        WindowHill rules = Checks.hill(MIDDLE + "citizen a likes 1 to 1;");
        C.refused(rules, 6, "no RULES", rules::elect);
    }

    private static void reads() {
        WindowHill h = Checks.hill("wide 3;row lnd;row wxl;");
        int[][] due = {{0, 0, 1}, {1, 0, 5}, {0, 1, 3}, {1, 1, 0}, {2, 1, 2}};
        for (int[] d : due) {
            C.asked(h, "reads " + d[0] + " " + d[1], () -> h.reads(d[0], d[1]), d[2]);
        }
        int[][] wrong = {{-1, 0}, {2, 0}, {-1, 1}, {3, 1}, {0, -1}, {0, 2}, {5, 0}};
        for (int[] w : wrong) {
            C.refused(h, 1, "reads " + w[0] + " " + w[1], () -> h.reads(w[0], w[1]));
        }
        WindowHill large = Checks.hill(LARGE);
        large.paint(ALL);
        C.asked(large, "column", () -> large.reads(4, 1), 63);
        C.asked(large, "row", () -> large.reads(5, 0), 31);
    }

    private static void mirror() {
        String[] are = {"wide 1;row l;", "wide 2;row dd;row ll;", "wide 3;row ldl;row dld;", "wide 3;row wnl;",
            "wide 5;row lwxwl;row dldln;", "wide 4;row xnnd;"};
        for (String town : are) {
            WindowHill h = Checks.hill(town);
            C.asked(h, town, h::mirror, 1);
        }
        String[] not = {"wide 2;row ld;", "wide 3;row ldl;row ldd;", "wide 4;row dldd;", "wide 2;row wn;",
            "wide 2;row dd;row dd;row dd;row dd;row dd;row dl;"};
        for (String town : not) {
            WindowHill h = Checks.hill(town);
            C.asked(h, town, h::mirror, 0);
        }
    }

    private static void heaps() {
        WindowHill h = Checks.hill("wide 5;row lldwl;row dndll;row ldddd;");
        C.asked(h, "how many", () -> h.heaps(0), 3);
        C.asked(h, "the largest", () -> h.heaps(1), 4);
        WindowHill dark = Checks.hill("wide 2;row dx;");
        C.asked(dark, "none", () -> dark.heaps(0), 0);
        C.asked(dark, "none", () -> dark.heaps(1), 0);
        WindowHill ring = Checks.hill("wide 3 ring;row ldl;row dll;");
        C.asked(ring, "by the RING", () -> ring.heaps(0), 1);
        C.asked(ring, "by the RING", () -> ring.heaps(1), 4);
        WindowHill snake = Checks.hill("wide 5;row lllll;row ddddl;row lllll;row ldddd;row lllll;row ddddl;");
        C.asked(snake, "a snake", () -> snake.heaps(1), 18);
        C.asked(snake, "one", () -> snake.heaps(0), 1);
        WindowHill board = Checks.hill("wide 5;row ldldl;row dldld;row ldldl;row dldld;row ldldl;row dldld;");
        C.asked(board, "apart", () -> board.heaps(0), 15);
        C.asked(board, "apart", () -> board.heaps(1), 1);
        C.refused(h, 1, "-1", () -> h.heaps(-1));
        C.refused(h, 1, "2", () -> h.heaps(2));
    }

    private static void heap() {
        WindowHill h = Checks.hill("wide 5;row lldwl;row dndll;row ldddd;");
        int[][] due = {{0, 0, 2}, {1, 0, 2}, {2, 0, 0}, {3, 0, 4}, {4, 1, 4}, {0, 2, 1}, {0, 1, 0}};
        for (int[] d : due) {
            C.asked(h, "heap " + d[0] + " " + d[1], () -> h.heap(d[0], d[1]), d[2]);
        }
        WindowHill ring = Checks.hill("wide 4 ring;row lddl;row dddl;");
        C.asked(ring, "by the RING, to the left", () -> ring.heap(0, 0), 3);
        C.asked(ring, "by the RING, to the right", () -> ring.heap(3, 1), 3);
        WindowHill flat = Checks.hill("wide 4;row lddl;row dddl;");
        C.asked(flat, "without one", () -> flat.heap(0, 0), 1);
        int[][] wrong = {{1, -1, 0}, {1, 5, 0}, {1, 0, -1}, {1, 0, 3}, {7, 1, 1}};
        for (int[] w : wrong) {
            C.refused(h, w[0], "heap", () -> h.heap(w[1], w[2]));
        }
    }

    private static void companyOf(String town, long top, long bottom) {
        WindowHill h = Checks.hill(town);
        C.doneSo(h, town, h::company);
        C.due(town + " top", h.top(), top);
        C.due(town + " bottom", h.bottom(), bottom);
    }

    private static void company() {
        companyOf("wide 3;row lll;", 4, 3);
        companyOf("wide 3;row ldl;", 0, 1);
        companyOf("wide 2;row lw;row ll;", 2, 1);
        companyOf("wide 3 ring;row lll;", 2, 1);
        companyOf("wide 2;row ll;row ld;row dd;", 4, 3);
        companyOf("wide 2;row lx;row ll;row dd;row dl;", 1, 1);
        companyOf("wide 5;row lllll;row lllll;row lllll;row lllll;row lllll;row lllll;", 49, 15);
        WindowHill dark = Checks.hill("wide 2;row xd;");
        C.denied(dark, 6, "none is lit", dark::company);
    }
}
