/** Promises 10 to 17: texts of TOWNS and YEARS, what is told of a TOWN. (FaultTests has the FAULTS.) */
public final class TextTests {
    private static final Checks C = new Checks();
    private static final Rows R = new Rows(C);
    private static final String PLAIN = "wide 2;row dd;";
    private static final String MAX = Rows.MAX;
    private static final String MIN = Rows.MIN;

    public static void main(String[] args) {
        C.test("10 town", TextTests::town);
        C.test("10 town is new", TextTests::townIsNew);
        C.test("10 town after town", TextTests::townAfterTown);
        C.test("10 town after town of another WIDTH", TextTests::townAfterOther);
        C.test("10 town, the largest", TextTests::largestTown);
        C.test("10 town, as many TOKENS as there can be", TextTests::manyTokens);
        townBytes();
        yearBytes();
        C.test("11 year is of its TOWN", TextTests::yearOfTown);
        C.test("11 year, a FAULT leaves the old one", TextTests::yearFault);
        C.test("12 fault", TextTests::fault);
        C.test("12 fault of others", TextTests::faultOfOthers);
        told();
        picture();
        lamp();
        lampByRing();
        lampAtEdges();
        lampRefused();
        rule();
        citizen();
        C.end();
    }

    private static void town() {
        WindowHill h = new WindowHill();
        C.done(h, "town", () -> Checks.town(h, "wide 3 ring;row dln;row wxd;rule a born 3 stays 2 3;"
            + "rule b;citizen c likes 2 to 4;"), 5);
        long[] told = {3, 2, 5, 2, 2, 2, 1, 0, 0, 1, 0};
        for (int what = 0; what < told.length; what++) {
            C.due("told " + what, h.told(what), told[what]);
        }
        C.due("picture", h.picture(), 2 + 8);
        C.due("the tape is empty", h.feed(0, 0, 0, 0, 0), 20);
    }

    private static void townIsNew() {
        WindowHill h = Checks.hill("wide 2;row ll;rule a born 0;citizen c likes 0 to 1;", "night 1;");
        h.night(3);
        h.live(1);
        h.tray(0, 0, 2);
        h.company();
        h.mark();
        C.due("OIL", h.told(8) > 0, true);
        C.done(h, "town", () -> Checks.town(h, "wide 1;row d;"), 1);
        long[] told = {1, 1, 1, 0, 0, 0, 0, 0, 0, 0};
        for (int what = 0; what < told.length; what++) {
            C.due("told " + what, h.told(what), told[what]);
        }
        C.due("SEEN", h.rulesLeft(), 1024);
        C.refused(h, 6, "no YEAR", () -> h.live(1));
        C.done(h, "LIVED stays", () -> h.lived(1), 1);
        C.done(h, "TRAYS stay", () -> h.read(0, 0), 0);
        C.due("the FRACTION stays", h.top(), 1);
        C.done(h, "MARKS stay", h::back, 0);
        C.due("WIDE", h.told(0), 2);
    }

    /** Nothing of the towns ahead may be left, of the latest or of others. */
    private static void townAfterTown() {
        String large = "wide 5 ring;row wwwww;row lllll;row xxxxx;row nnnnn;row ddddd;row lllll;rule a;rule b born 0;"
            + "rule c born 0 1 2 stays 0 1 2;rule d stays 1;citizen e likes 30 to 30;citizen f likes 0 to 30;";
        String[] small = {"wide 2;row ld;", "wide 2;row ld;rule z;", "wide 2;row ld;citizen a likes 2 to 2;rule z stays 0;"};
        for (String text : small) {
            WindowHill h = new WindowHill();
            for (int k = 0; k < 4; k++) {
                Checks.town(h, large);
                h.mayor(2);
                h.night(3);
                Checks.year(h, "night 3;when lamp 4 5;mayor b;end;");
            }
            Checks.town(h, text);
            C.due(text, Checks.all(h).equals(Checks.all(Checks.hill(text))), true);
            C.due("YEAR", h.live(0), -1);
            C.due("vote", h.vote(0), Checks.hill(text).vote(0));
            C.due("elect", h.elect(), Checks.hill(text).elect());
            C.due("night", h.night(1), text.contains("stays") ? 1 : 0);
            C.due("as in a new one", Checks.all(h).equals(Checks.all(nightOf(text))), true);
        }
    }

    private static WindowHill nightOf(String text) {
        WindowHill h = Checks.hill(text);
        h.elect();
        h.night(1);
        return h;
    }

    private static void townAfterOther() {
        for (String one : Rows.UNLIKE_TOWNS) {
            for (String other : Rows.UNLIKE_TOWNS) {
                WindowHill h = Rows.made("town: " + other, "town: " + other, "town: " + one);
                Rows.sameAsNew(C, h, one);
            }
        }
    }

    private static void largestTown() {
        StringBuilder text = new StringBuilder("wide 5 ring;");
        for (int y = 0; y < 6; y++) {
            text.append("row ldldl;");
        }
        for (int k = 0; k < 4; k++) {
            text.append("rule rrrrrrr").append((char) ('a' + k)).append(" born 0 1 2 3 4 stays 4 3 2 1 0;");
        }
        for (int k = 0; k < 6; k++) {
            text.append("citizen c").append((char) ('a' + k)).append(" likes 0 to 30;");
        }
        WindowHill h = Checks.hill(text.toString());
        C.due("houses", h.told(2), 30);
        C.due("lit", h.told(3), 18);
        C.due("RULES", h.told(5), 4);
        C.due("CITIZENS", h.told(6), 6);
        C.due("sets", h.rule(3, 1), 31);
        while (text.length() < 900) {
            text.append(' ');
        }
        C.due("900 bytes", Checks.hill(text.toString()).told(2), 30);
    }

    private static void manyTokens() {
        for (String tokens : new String[] {"1a", "a1", ";;", "a;", "1<", "??"}) {
            WindowHill many = new WindowHill();
            C.due("900 TOKENS", Checks.town(many, tokens.repeat(450)), -1);
            C.due("900 TOKENS", many.fault(1), 0);
            C.due("300 TOKENS", Checks.year(many, tokens.repeat(150)), -1);
            C.due("300 TOKENS", many.fault(1), 0);
        }
        WindowHill right = new WindowHill();
        C.due("887 TOKENS ahead of a FAULT", Checks.town(right, "wide 1;row d;" + ";".repeat(887)), -1);
        C.due("its place", right.fault(1), 13);
    }

    private static void townBytes() {
        R.on(Rows.TAPED);
        R.refuses("below 0", 1, "town -1");
        R.refuses("more than the tape has", 1, "town 21");
        R.refuses("above 900", 1, "town 901");
        R.refuses("the largest", 1, "town" + MAX);
        R.refuses("the least", 1, "town" + MIN);
        R.gives("all that the tape has", "town 20", 1, "told 5 = 1", "feed 0 0 0 0 0 = 20");
        R.gives("the first bytes alone", "town 13", 1, "told 5 = 0", "feed 0 0 0 0 0 = 20");
        R.on(Rows.and(Rows.TAPED, "town 20"));
        R.refuses("the tape is empty then", 1, "town 1");
        R.gives("the tape is there after a STATUS 1", "feed: wide 1;row d;rule a;", 20, "town 21 = -1", "town 20 = 1");
        R.on(Rows.RICH);
        R.faults("no bytes are a text, too", "town: ", 2, 0);
        R.on("feed: wide 1;row d;" + " ".repeat(887));
        R.gives("900 bytes", "town 900", 1, "told 0 = 1");
        R.refuses("901 bytes", 1, "town 901");
    }

    private static void yearBytes() {
        R.on(Rows.and(Rows.RICH, "feed: night 2;" + "\n".repeat(312)));
        R.refuses("below 0", 1, "year -1");
        R.refuses("above 300, though the tape has them", 1, "year 301");
        R.refuses("above 300, all that the tape has", 1, "year 320");
        R.refuses("the largest", 1, "year" + MAX);
        R.refuses("the least", 1, "year" + MIN);
        R.gives("300", "year 300", 1, "live 0 = 1", "lived 1 = 2", "feed 0 0 0 0 0 = 20");
        R.gives("the first bytes alone", "year 8", 1, "feed 0 0 0 0 0 = 20");
        R.gives("no bytes: no STEPS", "year 0", 0, "live 0 = 0", "feed 0 0 0 0 0 = 20");
        R.on(Rows.and(Rows.RICH, "feed: night 2;night 3;"));
        R.refuses("more than the tape has, though below 300", 1, "year 21");
        R.on(Rows.RICH);
        R.refuses("an empty tape", 1, "year 1");
    }

    private static void yearOfTown() {
        WindowHill h = Checks.hill("wide 3;row dln;row wxd;rule a born 3 stays 2 3;rule b;citizen c likes 2 to 4;");
        C.done(h, "year", () -> Checks.year(h, "night 2;turn 0 1;mayor b;elect;storm 16;birth;"
            + "when lit<3;loop 2;when same;stop;end;end;end;when lamp 2 1;end;when lit = 30;end;when lit>0;end;"), 13);
        C.due("fault", h.fault(0), 0);
        C.due("its place", h.fault(1), -1);
        C.due("the tape is empty", h.feed(0, 0, 0, 0, 0), 20);
    }

    private static void yearFault() {
        WindowHill h = Checks.hill(PLAIN, "night 2;turn 0 0;");
        C.due("year", Checks.year(h, "night 3;night 3;loop 1;"), -1);
        C.due("9", h.status(), 9);
        C.done(h, "the old one", () -> h.live(0), 2);
        C.due("as it was", h.lived(1), 2);
        C.due("picture", h.picture(), 1);
    }

    private static void fault() {
        WindowHill h = new WindowHill();
        C.due("ahead of any", h.fault(0), -1);
        C.due("ahead of any", h.fault(1), -1);
        h.town(5);
        C.due("STATUS 1 tells none", h.fault(0), -1);
        Checks.town(h, "wide 9;");
        C.due("kind", h.fault(0), 4);
        C.due("place", h.fault(1), 5);
        h.town(5);
        h.year(301);
        C.due("still that", h.fault(0), 4);
        C.due("still there", h.fault(1), 5);
        Checks.year(h, "night 1;end;");
        C.due("of a year", h.fault(1), 8);
        Checks.town(h, PLAIN);
        C.due("none", h.fault(0), 0);
        C.due("no place", h.fault(1), -1);
        Checks.town(h, "");
        C.due("of a town again", h.fault(0), 2);
        Checks.year(h, "");
        C.due("none of a year", h.fault(0), 0);
        C.due("no place of a year", h.fault(1), -1);
        h.mark();
        Checks.year(h, "a");
        h.back();
        C.due("not taken back", h.fault(0), 2);
    }

    private static void faultOfOthers() {
        WindowHill h = new WindowHill();
        for (int what : new int[] {-1, 2, Integer.MIN_VALUE, Integer.MAX_VALUE}) {
            C.due("ahead of any " + what, h.fault(what), -1);
        }
        Checks.town(h, "wide 9;");
        for (int what : new int[] {-1, 2, 9, Integer.MIN_VALUE, Integer.MAX_VALUE}) {
            C.due("with one " + what, h.fault(what), -1);
        }
        Checks.town(h, PLAIN);
        for (int what : new int[] {-1, 2}) {
            C.due("without one " + what, h.fault(what), -1);
        }
    }

    private static void told() {
        R.on("town: wide 4 ring;row dlwx;row nnnl;rule a born 1;rule b;rule c;citizen d likes 0 to 1;");
        R.gives("WIDE", "told 0", 4);
        R.gives("ROWS", "told 1", 2);
        R.gives("houses", "told 2", 5);
        R.gives("lit lamps, STUCK ones too", "told 3", 3);
        R.gives("STUCK ones, lit and dark", "told 4", 2);
        R.gives("RULES", "told 5", 3);
        R.gives("CITIZENS", "told 6", 1);
        R.gives("the NIGHT", "told 7", 0);
        R.gives("OIL", "told 8", 0);
        R.gives("a RING that joins", "told 9", 1);
        R.gives("the mayor's RULE", "told 10", 0);
        R.refuses("below 0", 1, "told -1");
        R.refuses("above 10", 1, "told 11");
        R.refuses("the largest", 1, "told" + MAX);
        R.refuses("the least", 1, "told" + MIN);
        R.on("town: wide 1;row l;rule a stays 0;rule b;", "mayor 1", "mayor 0", "night 2", "mayor 1");
        R.gives("the NIGHT", "told 7", 2);
        R.gives("OIL", "told 8", 2);
        R.gives("another mayor's RULE", "told 10", 1);
        R.on("town: wide 5;row wxnnw;row nnnnn;");
        R.gives("houses", "told 2", 3);
        R.gives("STUCK", "told 4", 3);
        R.gives("lit ones", "told 3", 2);
        R.refuses("no RULES", 6, "told 10");
    }

    private static void picture() {
        R.on("town: wide 5;row lnddw;row dddll;row ddddd;row ddddd;row ddddd;row ddddl;");
        R.gives("ROW by ROW", "picture", 1 + 16 + 256 + 512 + (1 << 29));
        R.on("town: wide 5;row lllll;row lllll;row lllll;row lllll;row lllll;row lllll;");
        R.gives("all", "picture", (1 << 30) - 1);
        R.on("town: wide 3;row ndx;");
        R.gives("none", "picture", 0);
    }

    private static void lamps(int what, String rows) {
        String[] row = rows.split(" ");
        for (int y = 0; y < row.length; y++) {
            for (int x = 0; x < row[y].length(); x++) {
                if (row[y].charAt(x) != '-') {
                    R.gives("of " + rows, "lamp " + x + " " + y + " " + what, row[y].charAt(x) - '0');
                }
            }
        }
    }

    private static void lamp() {
        R.on("town: wide 3;row dln;row wxd;row lll;");
        lamps(0, "01- 100 111");
        lamps(1, "22- 342 232");
        lamps(2, "20- 131 221");
        lamps(3, "00- 110 000");
    }

    private static void lampByRing() {
        R.on("town: wide 3 ring;row lld;row ndl;");
        lamps(1, "233 -22");
        lamps(2, "113 -20");
        R.on("town: wide 2 ring;row ll;row dd;");
        lamps(1, "22 22");
        lamps(2, "11 11");
        R.on("town: wide 1 ring;row l;");
        lamps(1, "0");
        lamps(2, "0");
        R.on("town: wide 5 ring;row ldddl;");
        lamps(1, "22222");
        lamps(2, "11011");
        R.on("town: wide 4 ring;row lddn;");
        lamps(1, "121-");
        R.on("town: wide 4;row lddl;");
        lamps(1, "1221");
        lamps(2, "0110");
    }

    private static void lampAtEdges() {
        R.on("town: wide 5;row lllll;row lllll;row lllll;row lllll;row lllll;row lllll;");
        lamps(1, "23332 34443 34443 34443 34443 23332");
        lamps(2, "23332 34443 34443 34443 34443 23332");
        R.on("town: wide 1;row l;row d;row l;row l;row d;row l;");
        lamps(1, "1 2 2 2 2 1");
        lamps(2, "0 2 1 1 2 0");
    }

    private static void lampRefused() {
        R.on(Rows.TAPED);
        R.refuses("x below 0", 1, "lamp -1 0 0");
        R.refuses("x below 0 of a later ROW", 1, "lamp -1 1 0");
        R.refuses("x is WIDE", 1, "lamp 3 0 0");
        R.refuses("y below 0", 1, "lamp 0 -1 0");
        R.refuses("y is ROWS", 1, "lamp 0 2 0");
        R.refuses("what below 0", 1, "lamp 0 0 -1");
        R.refuses("what above 3", 1, "lamp 0 0 4");
        R.refuses("the largest", 1, "lamp" + MAX + MAX + " 0");
        R.refuses("the least", 1, "lamp" + MIN + MIN + " 0");
        R.refuses("a sum that wraps around", 1, "lamp 1 1431655766 0");
        R.refuses("no house, lit", 7, "lamp 2 0 0");
        R.refuses("no house, STUCK", 7, "lamp 2 0 3");
        R.refuses("1 ahead of 7", 1, "lamp 2 0 4");
    }

    private static void rule() {
        R.on("town: wide 1;row d;rule a born 0 4 stays 3;rule b stays 1 2;rule c;rule d born 0 1 2 3 4 stays 4;");
        R.gives("BORN: 1 for 0, 16 for 4", "rule 0 0", 17);
        R.gives("STAYS", "rule 0 1", 8);
        R.gives("no BORN", "rule 1 0", 0);
        R.gives("STAYS of the second", "rule 1 1", 6);
        R.gives("neither", "rule 2 1", 0);
        R.gives("the last one, all", "rule 3 0", 31);
        R.gives("the last one, 4", "rule 3 1", 16);
        R.refuses("a fifth", 1, "rule 4 0");
        R.on(Rows.TAPED);
        R.refuses("a RULE below 0", 1, "rule -1 0");
        R.refuses("a RULE more than there are", 1, "rule 2 0");
        R.refuses("what below 0", 1, "rule 0 -1");
        R.refuses("what above 1", 1, "rule 0 2");
        R.refuses("the largest RULE", 1, "rule" + MAX + " 0");
        R.refuses("the least RULE", 1, "rule" + MIN + " 0");
        R.on("town: " + PLAIN);
        R.refuses("no RULES", 1, "rule 0 0");
    }

    private static void citizen() {
        R.on("town: wide 1;row d;citizen a likes 0 to 30;rule b;citizen c likes 7 to 8;citizen d likes 1 to 1;"
            + "citizen e likes 2 to 2;citizen f likes 3 to 3;citizen g likes 29 to 30;");
        R.gives("the least", "citizen 0 0", 0);
        R.gives("the most", "citizen 0 1", 30);
        R.gives("the least of the second", "citizen 1 0", 7);
        R.gives("the most of the second", "citizen 1 1", 8);
        R.gives("the least of the last", "citizen 5 0", 29);
        R.gives("the most of the last", "citizen 5 1", 30);
        R.refuses("a seventh", 1, "citizen 6 0");
        R.on(Rows.TAPED);
        R.refuses("a CITIZEN below 0", 1, "citizen -1 0");
        R.refuses("a CITIZEN more than there are", 1, "citizen 2 0");
        R.refuses("what below 0", 1, "citizen 0 -1");
        R.refuses("what above 1", 1, "citizen 0 2");
        R.refuses("the largest CITIZEN", 1, "citizen" + MAX + " 0");
        R.refuses("the least CITIZEN", 1, "citizen" + MIN + " 0");
        R.on("town: " + PLAIN);
        R.refuses("no CITIZENS", 1, "citizen 0 0");
    }
}
