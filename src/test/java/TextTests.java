/** Promises 10 to 17: texts of TOWNS and YEARS, FAULTS, what is told of a TOWN. */
public final class TextTests {
    private static final Checks C = new Checks();
    private static final String PLAIN = "wide 2;row dd;";
    private static final String NIGHTS = "night 1;night 1;night 1;night 1;night 1;night 1;night 1;night 1;night 1;night 1;";

    public static void main(String[] args) {
        C.test("10 town", TextTests::town);
        C.test("10 town is new", TextTests::townIsNew);
        C.test("10 town after town", TextTests::townAfterTown);
        C.test("10 town, the largest", TextTests::largestTown);
        C.test("10 town, wrong n", TextTests::townWrong);
        C.test("10 town, blanks and lines", TextTests::blanks);
        C.test("10, 12 FAULT 1", TextTests::faultOne);
        C.test("10, 12 FAULT 2", TextTests::faultTwo);
        C.test("10, 12 FAULT 3", TextTests::faultThree);
        C.test("10, 12 FAULT 4", TextTests::faultFour);
        C.test("10, 12 FAULT 5", TextTests::faultFive);
        C.test("10, 12 FAULT 6", TextTests::faultSix);
        C.test("11 year", TextTests::year);
        C.test("11 year, wrong n", TextTests::yearWrong);
        C.test("11, 12 FAULTS of a year", TextTests::yearFaults);
        C.test("11, 12 FAULTS 6 and 7 of a year", TextTests::yearTooMuch);
        C.test("12 fault", TextTests::fault);
        C.test("13 told", TextTests::told);
        C.test("14 picture", TextTests::picture);
        C.test("15 lamp", TextTests::lamp);
        C.test("15 lamp, by a ring", TextTests::lampByRing);
        C.test("15 lamp, wrong", TextTests::lampWrong);
        C.test("16 rule", TextTests::rule);
        C.test("17 citizen", TextTests::citizen);
        C.end();
    }

    private static void town() {
        WindowHill h = new WindowHill();
        C.done(h, "town", () -> Checks.town(h, "wide 3 ring;row dln;row wxd;rule a born 3 stays 2 3;"
            + "rule b;citizen c likes 2 to 4;"), 5);
        long[] told = {3, 2, 5, 2, 2, 2, 1, 0, 0, 1, 0};
        for (int what = 0; what < told.length; what++) {
            C.due("told " + what, h.told(what), told[what]);
        }
        C.due("picture", h.picture(), 2 + 8);
        C.due("the tape is empty", h.feed(0, 0, 0, 0, 0), 20);
        C.done(Checks.hill("wide 1;row n;"), "no house", () -> Checks.hill("wide 1;row n;").told(2), 0);
        C.due("stays alone", Checks.hill("wide 1;row d;rule a stays 0 4;").rule(0, 1), 17);
        C.due("a WORD behind a NUMBER at once", Checks.hill("wide1ring;row d;rule a born 1 2stays 0;").rule(0, 0), 6);
    }

    private static void townIsNew() {
        WindowHill h = Checks.hill("wide 2;row ll;rule a born 0;citizen c likes 0 to 1;", "night 1;");
        h.night(3);
        h.live(1);
        h.tray(0, 0, 2);
        h.company();
        h.mark();
        C.due("OIL", h.told(8) > 0, true);
        C.done(h, "town", () -> Checks.town(h, "wide 1;row d;"), 1);
        long[] told = {1, 1, 1, 0, 0, 0, 0, 0, 0, 0};
        for (int what = 0; what < told.length; what++) {
            C.due("told " + what, h.told(what), told[what]);
        }
        C.due("SEEN", h.rulesLeft(), 1024);
        C.refused(h, 6, "no YEAR", () -> h.live(1));
        C.done(h, "LIVED stays", () -> h.lived(1), 1);
        C.done(h, "TRAYS stay", () -> h.read(0, 0), 0);
        C.done(h, "MARKS stay", h::back, 0);
        C.due("WIDE", h.told(0), 2);
    }

    /** Nothing of the towns ahead may be left, of the latest or of others. */
    private static void townAfterTown() {
        String large = "wide 5 ring;row wwwww;row lllll;row xxxxx;row nnnnn;row ddddd;row lllll;rule a;rule b born 0;"
            + "rule c born 0 1 2 stays 0 1 2;rule d stays 1;citizen e likes 30 to 30;citizen f likes 0 to 30;";
        String[] small = {"wide 2;row ld;", "wide 2;row ld;rule z;", "wide 2;row ld;citizen a likes 2 to 2;rule z stays 0;"};
        for (String text : small) {
            WindowHill h = new WindowHill();
            for (int k = 0; k < 4; k++) {
                Checks.town(h, large);
                h.mayor(2);
                h.night(3);
                Checks.year(h, "night 3;when lamp 4 5;mayor b;end;");
            }
            Checks.town(h, text);
            C.due(text, Checks.all(h).equals(Checks.all(Checks.hill(text))), true);
            C.due("YEAR", h.live(0), -1);
            C.due("vote", h.vote(0), Checks.hill(text).vote(0));
            C.due("elect", h.elect(), Checks.hill(text).elect());
            C.due("night", h.night(1), text.contains("stays") ? 1 : 0);
            C.due("as in a new one", Checks.all(h).equals(Checks.all(nightOf(text))), true);
        }
    }

    private static WindowHill nightOf(String text) {
        WindowHill h = Checks.hill(text);
        h.elect();
        h.night(1);
        return h;
    }

    private static void largestTown() {
        StringBuilder text = new StringBuilder("wide 5 ring;");
        for (int y = 0; y < 6; y++) {
            text.append("row ldldl;");
        }
        for (int k = 0; k < 4; k++) {
            text.append("rule rrrrrrr").append((char) ('a' + k)).append(" born 0 1 2 3 4 stays 4 3 2 1 0;");
        }
        for (int k = 0; k < 6; k++) {
            text.append("citizen c").append((char) ('a' + k)).append(" likes 0 to 30;");
        }
        WindowHill h = Checks.hill(text.toString());
        C.due("houses", h.told(2), 30);
        C.due("lit", h.told(3), 18);
        C.due("RULES", h.told(5), 4);
        C.due("CITIZENS", h.told(6), 6);
        C.due("sets", h.rule(3, 1), 31);
        while (text.length() < 900) {
            text.append(' ');
        }
        C.due("900 bytes", Checks.hill(text.toString()).told(2), 30);
        for (String tokens : new String[] {"1a", "a1", ";;", "a;", "1<", "??"}) {
            WindowHill many = new WindowHill();
            C.due("900 TOKENS", Checks.town(many, tokens.repeat(450)), -1);
            C.due("900 TOKENS", many.fault(1), 0);
        }
    }

    private static void townWrong() {
        WindowHill h = new WindowHill();
        C.refused(h, 1, "below 0", () -> h.town(-1));
        C.refused(h, 1, "an empty tape", () -> h.town(1));
        int n = Checks.feed(h, PLAIN);
        C.refused(h, 1, "more than there are", () -> h.town(21));
        C.refused(h, 1, "far more", () -> h.town(Integer.MAX_VALUE));
        C.due("the tape stays", h.town(n), 2);
        Checks.feed(h, "wide 1;row dd;");
        C.due("a WORD ends where the text does", h.town(12), -1);
        C.due("kind", h.fault(0), 2);
        C.due("place", h.fault(1), 12);
        Checks.feed(h, "wide 12;");
        C.due("a NUMBER ends where the text does", h.town(6), -1);
        C.due("kind", h.fault(0), 2);
        C.due("place", h.fault(1), 6);
        C.due("empty", h.town(0), -1);
        C.due("9", h.status(), 9);
        C.due("kind", h.fault(0), 2);
        C.due("place", h.fault(1), 0);
    }

    private static void blanks() {
        C.due("lines", Checks.hill("\n\nwide\n2\n ring ;row  dl;\nrow ld\n;rule a born 1 2stays 3;  ").picture(), 6);
        C.due("four digits", Checks.hill("wide 0002;row dd;citizen a likes 0000 to 0030;").told(0), 2);
    }

    private static void fault(String text, int kind, int place) {
        WindowHill h = Checks.hill("wide 1;row l;rule a born 0;");
        h.night(1);
        fault(h, "town", text, kind, place);
    }

    private static void fault(WindowHill h, String name, String text, int kind, int place) {
        long picture = h.picture();
        int nights = h.told(7);
        Checks.feed(h, text);
        long got = name.equals("town") ? h.town(text.length()) : h.year(text.length());
        C.due(text, got, -1);
        C.due(text + " STATUS", h.status(), 9);
        C.due(text + " kind", h.fault(0), kind);
        C.due(text + " place", h.fault(1), place);
        C.due("another", h.fault(2), -1);
        C.due("the old one", h.picture(), picture);
        C.due("its NIGHT", h.told(7), nights);
        C.due("the tape is empty", h.feed(0, 0, 0, 0, 0), 20);
        h.town(0);
    }

    private static void faultOne() {
        fault("Wide 1;", 1, 0);
        fault("wide 1;row D;", 1, 11);
        fault("wide 12345;row d;", 1, 5);
        fault("wide 00001;row d;", 1, 5);
        fault("wide 1,row d;", 1, 6);
        fault("wide 1;\trow d;", 1, 7);
        fault("wide 1;row d;\0", 1, 13);
        fault("wide 1;row d;rule -", 1, 18);
        fault("wide 1;row d;rule a 12345;", 1, 20);
        fault("wide 1;\u00e9", 1, 7);
        fault("wide 1;row d;rule a born 1 11111;", 1, 27);
    }

    private static void faultTwo() {
        fault("", 2, 0);
        fault("  ", 2, 2);
        fault("wide", 2, 4);
        fault("1", 2, 0);
        fault("wide wide", 2, 5);
        fault("wide 1", 2, 6);
        fault("wide 1;", 2, 7);
        fault("wide 1; ", 2, 8);
        fault("wide 1 ring ring;", 2, 12);
        fault("wide 1;ring;", 2, 7);
        fault("wide 1;rule a;", 2, 7);
        fault("wide 1;citizen a likes 1 to 1;", 2, 7);
        fault("wide 2;row d;", 2, 11);
        fault("wide 2;row ddd;", 2, 11);
        fault("wide 2;row da;", 2, 11);
        fault("wide 2;row 12;", 2, 11);
        fault("wide 4;row ring;", 2, 11);
        fault("wide 2;row dd", 2, 13);
        fault("wide 2;row dd;rule a;row dd;", 2, 21);
        fault("wide 2;row dd;citizen a likes 1 to 1;row dd;", 2, 37);
        fault("wide 2;row dd;;", 2, 14);
        fault("wide 2;row dd;rule;", 2, 18);
        fault("wide 2;row dd;rule born;", 2, 19);
        fault("wide 2;row dd;rule stop;", 2, 19);
        fault("wide 2;row dd;rule abcdefghi;", 2, 19);
        fault("wide 2;row dd;rule 7;", 2, 19);
        fault("wide 2;row dd;rule a born;", 2, 25);
        fault("wide 2;row dd;rule a born stays 1;", 2, 26);
        fault("wide 2;row dd;rule a stays 1 born 1;", 2, 29);
        fault("wide 2;row dd;rule a born 1 born 2;", 2, 28);
        fault("wide 2;row dd;rule a born 1", 2, 27);
        fault("wide 2;row dd;citizen a like 1 to 2;", 2, 24);
        fault("wide 2;row dd;citizen a likes to 2;", 2, 30);
        fault("wide 2;row dd;citizen a likes 1 2;", 2, 32);
        fault("wide 2;row dd;citizen a likes 1 to;", 2, 34);
        fault("wide 2;row dd;citizen a likes 1 to 2", 2, 36);
        fault("wide 2;row dd;night 1;", 2, 14);
        fault("wide 2;row dd;widewidewide", 2, 14);
        fault("wide < 2", 2, 5);
        for (String kept : ("wide ring row rule born stays citizen likes to night turn mayor elect storm birth when lit"
            + " lamp same loop end stop").split(" ")) {
            fault("wide 2;row dd;citizen " + kept + " likes 1 to 2;", 2, 22);
        }
    }

    private static void faultThree() {
        fault("wide 2;row dd;rule a;rule a;", 3, 26);
        fault("wide 2;row dd;rule a;rule b;citizen b likes 1 to 2;", 3, 36);
        fault("wide 2;row dd;citizen a likes 1 to 2;rule a;", 3, 42);
        fault("wide 2;row dd;citizen a likes 1 to 2;citizen a likes 1 to 2;", 3, 45);
        C.due("abcdefgh is 8", Checks.hill("wide 1;row d;rule abcdefgh;rule abcdefg;rule dd;").told(5), 3);
    }

    private static void faultFour() {
        fault("wide 0;row d;", 4, 5);
        fault("wide 6;row dddddd;", 4, 5);
        fault("wide 9999;", 4, 5);
        fault("wide 1;row d;rule a born 5;", 4, 25);
        fault("wide 1;row d;rule a born 0 1 2 3 4 5;", 4, 35);
        fault("wide 1;row d;rule a born 5 5;", 4, 25);
        fault("wide 1;row d;rule a stays 4 9;", 4, 28);
        fault("wide 1;row d;rule a stays 40;", 4, 26);
        fault("wide 1;row d;citizen a likes 31 to 30;", 4, 29);
        fault("wide 1;row d;citizen a likes 0 to 31;", 4, 34);
        fault("wide 1;row d;citizen a likes 5 to 4;", 4, 34);
        C.due("5 to 5", Checks.hill("wide 1;row d;citizen a likes 30 to 30;").citizen(0, 1), 30);
    }

    private static void faultFive() {
        fault("wide 1;row d;rule a born 1 1;", 5, 27);
        fault("wide 1;row d;rule a born 0 1 2 3 4 0;", 5, 35);
        fault("wide 1;row d;rule a born 1 stays 1 2 1;", 5, 37);
        fault("wide 1;row d;rule a born 1 0001;", 5, 27);
        C.due("of that one alone", Checks.hill("wide 1;row d;rule a born 1 stays 1;").rule(0, 1), 2);
    }

    private static void faultSix() {
        fault("wide 1;row d;row d;row d;row d;row d;row d;row d;", 6, 43);
        fault("wide 1;row d;row d;row d;row d;row d;row d;row", 6, 43);
        fault("wide 1;row d;row d;row d;row d;row d;row d;rule a;row d;", 2, 50);
        fault("wide 1;row d;rule a;rule b;rule c;rule d;rule a;", 6, 41);
        String six = "wide 1;row d;citizen a likes 0 to 1;citizen b likes 0 to 1;citizen c likes 0 to 1;"
            + "citizen d likes 0 to 1;citizen e likes 0 to 1;citizen f likes 0 to 1;";
        C.due("six", Checks.hill(six).told(6), 6);
        fault(six + "citizen g likes 0 to 1;", 6, six.length());
        C.due("four and six", Checks.hill(six + "rule g;rule h;rule i;rule j;").told(5), 4);
        fault(six + "rule g;rule h;rule i;rule j;rule k;", 6, six.length() + 28);
    }

    private static WindowHill yearHill() {
        return Checks.hill("wide 3;row dln;row wxd;rule a born 3 stays 2 3;rule b;citizen c likes 2 to 4;");
    }

    private static void year() {
        WindowHill h = yearHill();
        C.done(h, "year", () -> Checks.year(h, "night 2;turn 0 1;mayor b;elect;storm 16;birth;"
            + "when lit<3;loop 2;when same;stop;end;end;end;when lamp 2 1;end;when lit = 30;end;when lit>0;end;"), 13);
        C.due("fault", h.fault(0), 0);
        C.due("its place", h.fault(1), -1);
        C.done(h, "an empty one", () -> h.year(0), 0);
        C.done(h, "is a YEAR", () -> h.live(5), 0);
        C.due("nights", Checks.year(h, NIGHTS + NIGHTS + NIGHTS), 30);
        C.due("the tape is empty", h.feed(0, 0, 0, 0, 0), 20);
        C.done(h, "ends are no STEPS", () -> Checks.year(Checks.hill(PLAIN), "loop 99;loop 1;end;end;"), 2);
    }

    private static void yearWrong() {
        WindowHill h = yearHill();
        C.refused(h, 1, "below 0", () -> h.year(-1));
        C.refused(h, 1, "more than there are", () -> h.year(1));
        StringBuilder text = new StringBuilder("night 1;");
        while (text.length() < 320) {
            text.append(' ');
        }
        Checks.feed(h, text.toString());
        C.refused(h, 1, "301", () -> h.year(301));
        C.done(h, "300", () -> h.year(300), 1);
    }

    private static void yearFault(String text, int kind, int place) {
        WindowHill h = yearHill();
        Checks.year(h, "night 2;birth;");
        fault(h, "year", text, kind, place);
        C.due("the old YEAR stays", h.live(0), 2);
    }

    private static void yearFaults() {
        yearFault("Night 1;", 1, 0);
        yearFault("night 11111;", 1, 6);
        yearFault("night 1;?", 1, 8);
        yearFault("night", 2, 5);
        yearFault("night 1", 2, 7);
        yearFault("night a;", 2, 6);
        yearFault("1;", 2, 0);
        yearFault("end;", 2, 0);
        yearFault("night 1;end;", 2, 8);
        yearFault("loop 2;night 1;", 2, 15);
        yearFault("loop 2;night 1; ", 2, 16);
        yearFault("loop 2;night 1;end", 2, 18);
        yearFault("loop 2;night 1;end;end;", 2, 19);
        yearFault("when same", 2, 9);
        yearFault("when;", 2, 4);
        yearFault("when lit;", 2, 8);
        yearFault("when lit 3;", 2, 9);
        yearFault("when lit<;", 2, 9);
        yearFault("when lit<=3;", 2, 9);
        yearFault("when lamp 1;", 2, 11);
        yearFault("when a;", 2, 5);
        yearFault("turn 1;", 2, 6);
        yearFault("mayor;", 2, 5);
        yearFault("mayor abcdefghi;", 2, 6);
        yearFault("mayor loop;", 2, 6);
        yearFault("mayor 1;", 2, 6);
        yearFault("elect 1;", 2, 6);
        yearFault("rule a;", 2, 0);
        yearFault("lit;", 2, 0);
        yearFault("wide 1;", 2, 0);
        yearFault("storm;", 2, 5);
        yearFault("stop", 2, 4);
        yearFault("mayor c;", 3, 6);
        yearFault("mayor d;", 3, 6);
        yearFault("night 0;", 4, 6);
        yearFault("night 100;", 4, 6);
        yearFault("loop 0;end;", 4, 5);
        yearFault("loop 100;end;", 4, 5);
        yearFault("storm 17;", 4, 6);
        yearFault("turn 3 0;", 4, 5);
        yearFault("turn 0 2;", 4, 7);
        yearFault("turn 3 2;", 4, 5);
        yearFault("when lamp 3 0;end;", 4, 10);
        yearFault("when lamp 2 2;end;", 4, 12);
        yearFault("when lit>31;end;", 4, 9);
        C.due("a PLACE without a house is one", Checks.year(yearHill(), "turn 2 0;when lamp 2 0;end;storm 0;"), 3);
        C.due("no RULES", Checks.year(Checks.hill(PLAIN), "mayor a;"), -1);
    }

    private static void yearTooMuch() {
        yearFault(NIGHTS + NIGHTS + NIGHTS + "birth;", 6, 240);
        yearFault(NIGHTS + NIGHTS + NIGHTS + "end;", 2, 240);
        yearFault(NIGHTS + NIGHTS + NIGHTS + "a;", 2, 240);
        yearFault("loop 2;" + NIGHTS + NIGHTS + NIGHTS, 6, 7 + 29 * 8);
        C.due("with an end behind", Checks.year(yearHill(), NIGHTS + NIGHTS + NIGHTS.substring(8) + "loop 1;end;"), 30);
        yearFault("loop 1;loop 2;when same;loop 3;end;end;end;end;", 7, 24);
        yearFault("when same;when same;when same;when same;", 7, 30);
        C.due("three deep, again", Checks.year(yearHill(),
            "loop 1;loop 2;loop 3;end;loop 3;end;end;when same;end;end;loop 1;loop 1;loop 1;end;end;end;"), 8);
        // of one TOKEN the least kind: a 31st STEP that is too deep as well
        yearFault("loop 1;loop 1;loop 1;" + NIGHTS + NIGHTS + NIGHTS.substring(24) + "loop 1;", 6, 237);
    }

    private static void fault() {
        WindowHill h = new WindowHill();
        C.due("ahead of any", h.fault(0), -1);
        C.due("ahead of any", h.fault(1), -1);
        h.town(5);
        C.due("STATUS 1 tells none", h.fault(0), -1);
        Checks.town(h, "wide 9;");
        C.due("kind", h.fault(0), 4);
        C.due("place", h.fault(1), 5);
        h.town(5);
        h.year(301);
        C.due("still that", h.fault(0), 4);
        C.due("what 2", h.fault(2), -1);
        C.due("what -1", h.fault(-1), -1);
        Checks.year(h, "night 1;end;");
        C.due("of a year", h.fault(1), 8);
        Checks.town(h, PLAIN);
        C.due("none", h.fault(0), 0);
        C.due("no place", h.fault(1), -1);
        h.mark();
        Checks.year(h, "a");
        h.back();
        C.due("not taken back", h.fault(0), 2);
    }

    private static void told() {
        WindowHill h = Checks.hill("wide 4 ring;row dlwx;row nnnl;rule a born 1;rule b;");
        long[] told = {4, 2, 5, 3, 2, 2, 0, 0, 0, 1, 0};
        for (int what = 0; what < told.length; what++) {
            int w = what;
            C.done(h, "told " + what, () -> h.told(w), told[w]);
        }
        h.night(2);
        C.due("NIGHT", h.told(7), 2);
        h.mayor(1);
        C.due("mayor", h.told(10), 1);
        C.refused(h, 1, "told 11", () -> h.told(11));
        C.refused(h, 1, "told -1", () -> h.told(-1));
        WindowHill plain = Checks.hill(PLAIN);
        C.refused(plain, 6, "no RULES", () -> plain.told(10));
        C.due("a RING of 2", Checks.hill("wide 2 ring;row dd;").told(9), 0);
        C.due("a RING of 1", Checks.hill("wide 1 ring;row d;").told(9), 0);
        C.due("a RING of 3", Checks.hill("wide 3 ring;row ddd;").told(9), 1);
        C.due("none", Checks.hill("wide 3;row ddd;").told(9), 0);
    }

    private static void picture() {
        WindowHill h = Checks.hill("wide 5;row lnddw;row dddll;row ddddd;row ddddd;row ddddd;row ddddl;");
        C.done(h, "picture", h::picture, 1 + 16 + 256 + 512 + (1 << 29));
    }

    private static void lamps(WindowHill h, int what, String rows) {
        String[] row = rows.split(" ");
        for (int y = 0; y < row.length; y++) {
            for (int x = 0; x < row[y].length(); x++) {
                if (row[y].charAt(x) != '-') {
                    int i = x;
                    int j = y;
                    C.done(h, "lamp " + x + " " + y + " " + what, () -> h.lamp(i, j, what), row[y].charAt(x) - '0');
                }
            }
        }
    }

    private static void lamp() {
        WindowHill h = Checks.hill("wide 3;row dln;row wxd;row lll;");
        lamps(h, 0, "01- 100 111");
        lamps(h, 1, "22- 342 232");
        lamps(h, 2, "20- 131 221");
        lamps(h, 3, "00- 110 000");
    }

    private static void lampByRing() {
        WindowHill h = Checks.hill("wide 3 ring;row lld;row ndl;");
        lamps(h, 1, "233 -22");
        lamps(h, 2, "113 -20");
        WindowHill two = Checks.hill("wide 2 ring;row ll;");
        lamps(two, 1, "11");
        lamps(two, 2, "11");
        lamps(Checks.hill("wide 1 ring;row l;"), 1, "0");
        lamps(Checks.hill("wide 5 ring;row ldddl;"), 2, "11011");
    }

    private static void lampWrong() {
        WindowHill h = Checks.hill("wide 3;row dln;row wxd;");
        int[][] wrong = {{1, -1, 0, 0}, {1, 3, 0, 0}, {1, 0, -1, 0}, {1, 0, 2, 0}, {1, 0, 0, -1}, {1, 0, 0, 4},
            {1, 2, 0, 4}, {7, 2, 0, 0}, {7, 2, 0, 3}, {1, Integer.MAX_VALUE, Integer.MIN_VALUE, 0}};
        for (int[] w : wrong) {
            C.refused(h, w[0], "lamp " + w[1] + " " + w[2] + " " + w[3], () -> h.lamp(w[1], w[2], w[3]));
        }
    }

    private static void rule() {
        WindowHill h = Checks.hill("wide 1;row d;rule a born 0 4 stays 3;rule b stays 1 2;rule c;");
        long[] sets = {17, 8, 0, 6, 0, 0};
        for (int k = 0; k < 6; k++) {
            int i = k;
            C.done(h, "rule " + k / 2, () -> h.rule(i / 2, i % 2), sets[k]);
        }
        int[][] wrong = {{-1, 0}, {3, 0}, {0, -1}, {0, 2}, {4, 0}};
        for (int[] w : wrong) {
            C.refused(h, 1, "rule", () -> h.rule(w[0], w[1]));
        }
    }

    private static void citizen() {
        WindowHill h = Checks.hill("wide 1;row d;citizen a likes 0 to 30;rule b;citizen c likes 7 to 7;");
        long[] likes = {0, 30, 7, 7};
        for (int k = 0; k < 4; k++) {
            int i = k;
            C.done(h, "citizen " + k / 2, () -> h.citizen(i / 2, i % 2), likes[k]);
        }
        int[][] wrong = {{-1, 0}, {2, 0}, {0, -1}, {0, 2}, {6, 0}};
        for (int[] w : wrong) {
            C.refused(h, 1, "citizen", () -> h.citizen(w[0], w[1]));
        }
    }
}
