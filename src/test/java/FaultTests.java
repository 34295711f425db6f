/** Promises 10 to 12: each FAULT of a TOWN and of a YEAR with its place, and the texts that are just right. */
public final class FaultTests {
    private static final Checks C = new Checks();
    private static final Rows R = new Rows(C);
    private static final String ONE = "wide 1;row d;";
    private static final String TWO = "wide 2;row dd;";
    private static final String SIX_ROWS = "wide 1;row d;row d;row d;row d;row d;row d;";
    private static final String FOUR_RULES = ONE + "rule a;rule b;rule c;rule d;";
    private static final String SIX_CITIZENS = ONE + "citizen e likes 0 to 1;citizen f likes 0 to 1;"
        + "citizen g likes 0 to 1;citizen h likes 0 to 1;citizen i likes 0 to 1;citizen j likes 0 to 1;";
    private static final String KEPT = "wide ring row rule born stays citizen likes to night turn mayor elect storm birth"
        + " when lit lamp same loop end stop";
    /** Bytes that are no blank and begin no TOKEN, among them all that stand beside those that do. */
    private static final int[] ODD = {0, 9, 11, 13, 31, 33, 44, 45, 47, 58, 63, 64, 65, 90, 91, 95, 96, 123, 127, 128, 160,
        176, 225, 255};
    private static final String NIGHTS = "night 1;night 1;night 1;night 1;night 1;night 1;night 1;night 1;night 1;night 1;";
    private static final String THIRTY = NIGHTS + NIGHTS + NIGHTS;

    public static void main(String[] args) {
        R.on(Rows.RICH);
        townBytes();
        townNumbers();
        townEnds();
        townOrder();
        townLetters();
        townNames();
        townParts();
        townTaken();
        townLikes();
        townSets();
        townTooMany();
        townFirstFault();
        rightTowns();
        rightParts();
        rightNames();
        yearBytes();
        yearEnds();
        yearOrder();
        yearTests();
        yearNames();
        yearNumbers();
        yearPlaces();
        yearTooMany();
        yearTooDeep();
        rightYears();
        rightSteps();
        rightTests();
        C.end();
    }

    private static void town(String why, String text, int kind, int place) {
        R.faults(why, "town: " + text, kind, place);
    }

    private static void year(String why, String text, int kind, int place) {
        R.faults(why, "year: " + text, kind, place);
    }

    private static void townBytes() {
        for (int odd : ODD) {
            String sign = "" + (char) odd;
            town("byte " + odd + " begins no TOKEN", ONE + sign, 1, 13);
            town("byte " + odd + " is none of a WORD", "wide 1;row d" + sign + ";", 1, 12);
            town("byte " + odd + " is none of a NUMBER", "wide 1" + sign + ";", 1, 6);
        }
        town("a large letter", "Wide 1;row d;", 1, 0);
        town("a large letter where LETTERS must stand", "wide 1;row D;", 1, 11);
        town("a large letter behind too few LETTERS", "wide 2;row dD;", 2, 11);
    }

    private static void townNumbers() {
        town("4 digits are a NUMBER", "wide 9999;", 4, 5);
        town("5 digits: at the first", "wide 12345;row d;", 1, 5);
        town("5 digits, though it is 1", "wide 00001;row d;", 1, 5);
        town("5 digits, though it is 0", "wide 00000;row d;", 1, 5);
        town("10 digits", "wide 4294967297;row d;", 1, 5);
        town("many digits", "wide " + "1".repeat(200) + ";row d;", 1, 5);
        town("5 digits where none must stand", ONE + "rule a 12345;", 1, 20);
        town("5 digits behind another NUMBER", ONE + "rule a born 1 00002;", 1, 27);
        town("5 digits where LETTERS must stand", "wide 5;row 12345;", 1, 11);
    }

    private static void townEnds() {
        town("nothing: its end", "", 2, 0);
        town("blanks alone: the text's length", " \n ", 2, 3);
        town("the end behind wide", "wide", 2, 4);
        town("the end behind the NUMBER", "wide 1", 2, 6);
        town("the end behind ring", "wide 1 ring", 2, 11);
        town("the end ahead of the first row", "wide 1;", 2, 7);
        town("the end ahead of the first row, behind blanks", "wide 1;  ", 2, 9);
        town("the end behind row", "wide 1;row", 2, 10);
        town("the end behind LETTERS", "wide 2;row dd", 2, 13);
        town("the end behind rule", TWO + "rule", 2, 18);
        town("the end behind a NAME", TWO + "rule a", 2, 20);
        town("the end behind born", TWO + "rule a born", 2, 25);
        town("the end behind its NUMBER", TWO + "rule a born 1", 2, 27);
        town("the end behind stays", TWO + "rule a stays", 2, 26);
        town("the end behind citizen", TWO + "citizen", 2, 21);
        town("the end behind likes", TWO + "citizen a likes", 2, 29);
        town("the end behind the first NUMBER", TWO + "citizen a likes 1", 2, 31);
        town("the end behind to", TWO + "citizen a likes 1 to", 2, 34);
        town("the end behind the second NUMBER", TWO + "citizen a likes 1 to 2", 2, 36);
        C.test("10 a NUMBER ends where the text does", () -> cut("wide 12;", 6));
        C.test("10 a WORD ends where the text does", () -> cut("wide 1;row dd;", 12));
    }

    /** The end of a text that is not all that is on the tape. */
    private static void cut(String text, int n) {
        WindowHill h = new WindowHill();
        Checks.feed(h, text);
        C.due("town", h.town(n), -1);
        C.due("FAULT", h.fault(0), 2);
        C.due("its place", h.fault(1), n);
        C.due("the rest is gone, too", h.feed(0, 0, 0, 0, 0), 20);
    }

    private static void townOrder() {
        town("a NUMBER ahead of all", "1", 2, 0);
        town("a SIGN ahead of all", ";", 2, 0);
        town("another WORD ahead of all", "row d;", 2, 0);
        town("a WORD that goes on", "widen 1;", 2, 0);
        town("a WORD where the NUMBER must stand", "wide wide", 2, 5);
        town("< is a SIGN", "wide < 2", 2, 5);
        town("> is a SIGN", "wide > 2", 2, 5);
        town("= is a SIGN", "wide = 2", 2, 5);
        town("; where the NUMBER must stand", "wide;", 2, 4);
        town("two NUMBERS", "wide 1 1;", 2, 7);
        town("ring twice", "wide 1 ring ring;", 2, 12);
        town("ring ahead of the NUMBER", "wide ring 1;", 2, 5);
        town("ring behind the ;", "wide 1;ring;", 2, 7);
        town("wide twice", "wide 1;wide 1;", 2, 7);
        town("; twice", TWO + ";", 2, 14);
        town("a rule ahead of the first row", "wide 1;rule a;", 2, 7);
        town("a citizen ahead of the first row", "wide 1;citizen a likes 1 to 1;", 2, 7);
        town("a row behind a rule", TWO + "rule a;row dd;", 2, 21);
        town("a row behind a citizen", TWO + "citizen a likes 1 to 1;row dd;", 2, 37);
        town("ring behind the rows", TWO + "ring;", 2, 14);
        town("a STEP of a YEAR", TWO + "night 1;", 2, 14);
        town("a NAME where a PART must stand", TWO + "a;", 2, 14);
        town("a long WORD where a PART must stand", TWO + "widewidewide;", 2, 14);
    }

    private static void townLetters() {
        town("LETTERS too few", "wide 2;row d;", 2, 11);
        town("LETTERS too many", "wide 2;row ddd;", 2, 11);
        town("LETTERS too many of WIDE 5", "wide 5;row dddddd;", 2, 11);
        town("a letter beside d", "wide 2;row dc;", 2, 11);
        town("a letter behind d", "wide 2;row ed;", 2, 11);
        town("a letter ahead of l", "wide 2;row kd;", 2, 11);
        town("a letter between l and n", "wide 2;row md;", 2, 11);
        town("a letter behind n", "wide 2;row do;", 2, 11);
        town("a letter ahead of w", "wide 2;row dv;", 2, 11);
        town("a letter behind x", "wide 2;row dy;", 2, 11);
        town("a kept WORD as long", "wide 4;row ring;", 2, 11);
        town("a NUMBER", "wide 2;row 12;", 2, 11);
        town("a SIGN", "wide 2;row ;", 2, 11);
        town("two WORDS", "wide 2;row d d;", 2, 11);
        town("two right WORDS", "wide 2;row dd dd;", 2, 14);
        town("a WORD with row, without a blank", "wide 2;rowdd;", 2, 7);
        town("of a later ROW", "wide 2;row dd;row d;", 2, 18);
    }

    private static void townNames() {
        town("9 letters", TWO + "rule abcdefghi;", 2, 19);
        town("9 letters of a CITIZEN", TWO + "citizen abcdefghi likes 1 to 2;", 2, 22);
        town("many letters", TWO + "rule " + "a".repeat(300) + ";", 2, 19);
        town("none", TWO + "rule;", 2, 18);
        town("none of a CITIZEN", TWO + "citizen likes 1 to 2;", 2, 22);
        town("a NUMBER", TWO + "rule 7;", 2, 19);
        town("a NUMBER of a CITIZEN", TWO + "citizen 7 likes 1 to 2;", 2, 22);
        town("two", TWO + "rule a b;", 2, 21);
        for (String kept : KEPT.split(" ")) {
            town("kept", TWO + "rule " + kept + ";", 2, 19);
            town("kept", TWO + "citizen " + kept + " likes 1 to 2;", 2, 22);
        }
    }

    private static void townParts() {
        town("born without a NUMBER", TWO + "rule a born;", 2, 25);
        town("born without a NUMBER ahead of stays", TWO + "rule a born stays 1;", 2, 26);
        town("stays without a NUMBER", TWO + "rule a stays;", 2, 26);
        town("stays ahead of born", TWO + "rule a stays 1 born 1;", 2, 29);
        town("born twice", TWO + "rule a born 1 born 2;", 2, 28);
        town("stays twice", TWO + "rule a stays 1 stays 2;", 2, 29);
        town("a NUMBER behind a NAME", TWO + "rule a 1;", 2, 21);
        town("likes of a RULE", TWO + "rule a likes 1 to 2;", 2, 21);
        town("another WORD in place of likes", TWO + "citizen a like 1 to 2;", 2, 24);
        town("no likes", TWO + "citizen a;", 2, 23);
        town("no first NUMBER", TWO + "citizen a likes to 2;", 2, 30);
        town("no to", TWO + "citizen a likes 1 2;", 2, 32);
        town("no second NUMBER", TWO + "citizen a likes 1 to;", 2, 34);
        town("a third NUMBER", TWO + "citizen a likes 1 to 2 3;", 2, 37);
        town("born of a CITIZEN", TWO + "citizen a born 1;", 2, 24);
    }

    private static void townTaken() {
        town("two RULES of one NAME", ONE + "rule a;rule a;", 3, 25);
        town("a RULE's, of a CITIZEN", ONE + "rule a;rule b;citizen b likes 1 to 2;", 3, 35);
        town("a CITIZEN's, of a RULE", ONE + "citizen a likes 1 to 2;rule a;", 3, 41);
        town("two CITIZENS of one NAME", ONE + "citizen a likes 1 to 2;citizen a likes 1 to 2;", 3, 44);
        town("the first of four", FOUR_RULES + "citizen a likes 1 to 2;", 3, 49);
        town("the last of four", FOUR_RULES + "citizen d likes 1 to 2;", 3, 49);
        town("the last of six CITIZENS", SIX_CITIZENS + "rule j;", 3, SIX_CITIZENS.length() + 5);
        town("of 8 letters", ONE + "rule abcdefgh;rule abcdefgh;", 3, 32);
        town("taken, in a RULE that is none", ONE + "rule a;rule a 5;", 3, 25);
    }

    private static void townLikes() {
        town("WIDE 0", "wide 0;row d;", 4, 5);
        town("WIDE 6", "wide 6;row dddddd;", 4, 5);
        town("the first 31", ONE + "citizen a likes 31 to 30;", 4, 29);
        town("both 31", ONE + "citizen a likes 31 to 31;", 4, 29);
        town("the second 31", ONE + "citizen a likes 0 to 31;", 4, 34);
        town("the second less", ONE + "citizen a likes 5 to 4;", 4, 34);
        town("the second less, 0", ONE + "citizen a likes 1 to 0;", 4, 34);
        town("30 to 29", ONE + "citizen a likes 30 to 29;", 4, 35);
        town("the second 9999", ONE + "citizen a likes 0 to 9999;", 4, 34);
    }

    private static void townSets() {
        town("born 5", ONE + "rule a born 5;", 4, 25);
        town("born 5 behind all others", ONE + "rule a born 0 1 2 3 4 5;", 4, 35);
        town("born 5 twice: the first", ONE + "rule a born 5 5;", 4, 25);
        town("stays 5", ONE + "rule a stays 5;", 4, 26);
        town("stays 4 9", ONE + "rule a stays 4 9;", 4, 28);
        town("born 36", ONE + "rule a born 4 36;", 4, 27);
        for (int number = 0; number < 5; number++) {
            town("told already", ONE + "rule a born " + number + " " + number + ";", 5, 27);
            town("told already", ONE + "rule a stays " + number + " " + number + ";", 5, 28);
        }
        town("told ahead of others", ONE + "rule a born 0 1 2 3 4 0;", 5, 35);
        town("told ahead of others, of stays", ONE + "rule a born 1 stays 1 2 1;", 5, 37);
        town("told with other digits", ONE + "rule a born 1 0001;", 5, 27);
    }

    private static void townTooMany() {
        town("a seventh row", SIX_ROWS + "row d;", 6, 43);
        town("a seventh row, at its WORD", SIX_ROWS + "row", 6, 43);
        town("a seventh row with LETTERS that can't be", SIX_ROWS + "row ddd;", 6, 43);
        town("a seventh row behind a PART: the least kind", SIX_ROWS + "rule a;row d;", 2, 50);
        town("a fifth rule", FOUR_RULES + "rule e;", 6, 41);
        town("a fifth rule, at its WORD", FOUR_RULES + "rule", 6, 41);
        town("a fifth rule of a NAME that is taken", FOUR_RULES + "rule a;", 6, 41);
        town("a fifth rule behind a citizen", FOUR_RULES + "citizen e likes 0 to 1;rule e;", 6, 64);
        town("a seventh citizen", SIX_CITIZENS + "citizen k likes 0 to 1;", 6, SIX_CITIZENS.length());
        town("a seventh citizen, at its WORD", SIX_CITIZENS + "citizen", 6, SIX_CITIZENS.length());
        String all = SIX_CITIZENS + "rule a;rule b;rule c;rule d;";
        town("a fifth rule behind six citizens", all + "rule k;", 6, all.length());
        town("a seventh citizen behind four rules", all + "citizen k likes 0 to 1;", 6, all.length());
    }

    private static void townFirstFault() {
        town("1 behind 4", "wide 9;?", 4, 5);
        town("4 behind 1", "wide?9;", 1, 4);
        town("3 behind 5", ONE + "rule a born 1 1;rule a;", 5, 27);
        town("1 behind 6", FOUR_RULES + "rule ?", 6, 41);
        town("a right text and a FAULT behind it", SIX_CITIZENS + "?", 1, SIX_CITIZENS.length());
        town("a long text", "wide 1;" + " ".repeat(892) + "?", 1, 899);
        R.on(Rows.and(Rows.RICH, "town: " + ONE, "year: night 1;"));
        town("the latest TOWN stays", "wide", 2, 4);
        R.on(Rows.RICH);
    }

    private static void rightTowns() {
        R.gives("WIDE 1", "town: wide 1;row d;", 1, "told 0 = 1", "fault 0 = 0", "fault 1 = -1");
        R.gives("WIDE 5", "town: wide 5;row ddddd;", 5, "told 0 = 5");
        R.gives("1 ROW", "town: wide 2;row dd;", 2, "told 1 = 1");
        R.gives("6 ROWS", "town: " + SIX_ROWS, 6, "told 1 = 6");
        R.gives("6 ROWS of 5", "town: wide 5;row ddddd;row ddddd;row ddddd;row ddddd;row ddddd;row lllll;", 30,
            "picture = " + (31 << 25));
        R.gives("no house", "town: wide 2;row nn;", 0, "told 2 = 0", "told 4 = 0");
        R.gives("a WIDTH of 4 digits", "town: wide 0005;row ddddd;", 5, "told 0 = 5");
        R.gives("each of the LETTERS", "town: wide 5;row dlnwx;", 4, "picture = " + (2 + 8), "told 4 = 2");
        R.gives("no blanks but between WORDS", "town: wide1ring;row d;rule a born 1 2stays 0;", 1, "rule 0 0 = 6");
        R.gives("no blank between a NUMBER and a WORD", "town: wide 1;row d;citizen a likes 1to 2;", 1, "citizen 0 1 = 2");
        R.gives("blanks and lines everywhere", "town: \n\nwide\n2\n ring ;row  dl;\nrow ld\n;rule a born 1 2stays 3;  ", 4,
            "picture = 6", "told 5 = 1");
        R.gives("900 bytes", "town: wide 1;row d;" + "\n".repeat(879) + "rule a;", 1, "told 5 = 1");
        R.gives("a RING of 1", "town: wide 1 ring;row d;", 1, "told 9 = 0");
        R.gives("a RING of 2", "town: wide 2 ring;row dd;", 2, "told 9 = 0");
        R.gives("a RING of 3", "town: wide 3 ring;row ddd;", 3, "told 9 = 1");
        R.gives("no RING", "town: wide 3;row ddd;", 3, "told 9 = 0");
    }

    private static void rightParts() {
        R.gives("no RULES", "town: " + ONE, 1, "told 5 = 0", "told 6 = 0");
        R.gives("4 RULES", "town: " + FOUR_RULES, 1, "told 5 = 4");
        R.gives("6 CITIZENS", "town: " + SIX_CITIZENS, 1, "told 6 = 6");
        R.gives("6 CITIZENS, then 4 RULES", "town: " + SIX_CITIZENS + "rule a;rule b;rule c;rule d;", 1, "told 5 = 4",
            "told 6 = 6");
        R.gives("numbered as they stand", "town: " + ONE
            + "citizen a likes 1 to 2;rule b born 1;citizen c likes 3 to 4;rule d born 2;", 1,
            "citizen 0 0 = 1", "citizen 1 0 = 3", "rule 0 0 = 2", "rule 1 0 = 4", "told 10 = 0");
        R.gives("LIKES 0 to 30", "town: " + ONE + "citizen a likes 0 to 30;", 1, "citizen 0 0 = 0", "citizen 0 1 = 30");
        R.gives("LIKES 0 to 0", "town: " + ONE + "citizen a likes 0 to 0;", 1, "citizen 0 1 = 0");
        R.gives("LIKES 30 to 30", "town: " + ONE + "citizen a likes 30 to 30;", 1, "citizen 0 0 = 30");
        R.gives("LIKES more than there are houses", "town: " + ONE + "citizen a likes 2 to 3;", 1, "citizen 0 0 = 2");
        R.gives("all five numbers", "town: " + ONE + "rule a born 0 1 2 3 4 stays 4 3 2 1 0;", 1, "rule 0 0 = 31",
            "rule 0 1 = 31");
        R.gives("stays alone", "town: " + ONE + "rule a stays 0 4;", 1, "rule 0 0 = 0", "rule 0 1 = 17");
        R.gives("born alone", "town: " + ONE + "rule a born 0 4;", 1, "rule 0 0 = 17", "rule 0 1 = 0");
        R.gives("neither", "town: " + ONE + "rule a;", 1, "rule 0 0 = 0", "rule 0 1 = 0");
        R.gives("a number told of BORN, told of STAYS", "town: " + ONE + "rule a born 1 stays 1;", 1, "rule 0 1 = 2");
        R.gives("a number told of another RULE", "town: " + ONE + "rule a born 1;rule b born 1;", 1, "rule 1 0 = 2");
    }

    private static void rightNames() {
        R.gives("1 letter, the first and the last", "town: " + ONE + "rule a;rule z;", 1, "told 5 = 2");
        R.gives("8 letters", "town: " + ONE + "rule abcdefgh;rule abcdefg;rule zzzzzzzz;", 1, "told 5 = 3");
        R.gives("8 letters of a CITIZEN", "town: " + ONE + "citizen abcdefgh likes 0 to 1;", 1, "told 6 = 1");
        R.gives("alike but for the last letter", "town: " + ONE + "rule abcdefgh;rule abcdefgi;", 1, "told 5 = 2");
        R.gives("alike but for the order", "town: " + ONE + "rule ab;rule ba;rule aa;rule a;", 1, "told 5 = 4");
        R.gives("a kept WORD and a letter", "town: " + ONE + "rule rows;rule ends;rule tot;rule lits;", 1, "told 5 = 4");
        R.gives("a kept WORD less a letter", "town: " + ONE + "rule ro;rule en;rule t;rule li;", 1, "told 5 = 4");
        R.gives("LETTERS", "town: " + ONE + "rule d;rule dlnwx;", 1, "told 5 = 2");
    }

    private static void yearBytes() {
        for (int odd : ODD) {
            year("byte " + odd + " begins no TOKEN", "night 1;" + (char) odd, 1, 8);
        }
        year("a large letter", "Night 1;", 1, 0);
        year("5 digits", "night 11111;", 1, 6);
        year("5 digits, though it is 1", "night 00001;", 1, 6);
        year("4 digits are a NUMBER", "night 1111;", 4, 6);
        year("5 digits where a NAME must stand", "mayor 11111;", 1, 6);
    }

    private static void yearEnds() {
        year("the end behind night", "night", 2, 5);
        year("the end behind its NUMBER", "night 1", 2, 7);
        year("the end behind turn", "turn", 2, 4);
        year("the end behind x", "turn 1", 2, 6);
        year("the end behind y", "turn 1 1", 2, 8);
        year("the end behind mayor", "mayor", 2, 5);
        year("the end behind elect", "elect", 2, 5);
        year("the end behind storm", "storm", 2, 5);
        year("the end behind birth", "birth", 2, 5);
        year("the end behind when", "when", 2, 4);
        year("the end behind a TEST", "when same", 2, 9);
        year("the end behind loop", "loop", 2, 4);
        year("the end behind stop", "stop", 2, 4);
        year("the end behind end", "loop 2;night 1;end", 2, 18);
        year("the text's end ahead of an end", "loop 2;night 1;", 2, 15);
        year("the text's end ahead of an end, behind blanks", "loop 2;night 1; \n", 2, 17);
        year("the text's end ahead of a when's end", "when same;", 2, 10);
        year("the text's end ahead of one of two ends", "loop 2;when same;end;", 2, 21);
        year("an end without a beginning", "end;", 2, 0);
        year("an end without a beginning behind a STEP", "night 1;end;", 2, 8);
        year("an end too many", "loop 2;night 1;end;end;", 2, 19);
    }

    private static void yearOrder() {
        year("a NUMBER", "1;", 2, 0);
        year("a SIGN", ";", 2, 0);
        year("; twice", "birth;;", 2, 6);
        year("a NAME", "a;", 2, 0);
        year("a PART of a TOWN", "rule a;", 2, 0);
        year("the beginning of a TOWN", "wide 1;", 2, 0);
        year("lit is no STEP", "lit;", 2, 0);
        year("lamp is no STEP", "lamp 1 1;", 2, 0);
        year("same is no STEP", "same;", 2, 0);
        year("a NAME where a NUMBER must stand", "night a;", 2, 6);
        year("two NUMBERS", "night 1 1;", 2, 8);
        year("one NUMBER", "turn 1;", 2, 6);
        year("three NUMBERS", "turn 1 1 1;", 2, 9);
        year("elect 1", "elect 1;", 2, 6);
        year("birth 1", "birth 1;", 2, 6);
        year("stop 1", "stop 1;", 2, 5);
        year("storm alone", "storm;", 2, 5);
        year("loop alone", "loop;end;", 2, 4);
        year("end 1", "loop 1;end 1;", 2, 11);
    }

    private static void yearTests() {
        year("when alone", "when;", 2, 4);
        year("lit alone", "when lit;", 2, 8);
        year("lit without COMPARES", "when lit 3;", 2, 9);
        year("lit without a NUMBER", "when lit<;", 2, 9);
        year("; is none that COMPARES", "when lit;3;", 2, 8);
        year("two that COMPARE", "when lit<=3;", 2, 9);
        year("lamp alone", "when lamp;", 2, 9);
        year("lamp with one NUMBER", "when lamp 1;", 2, 11);
        year("lamp COMPARES", "when lamp<1;", 2, 9);
        year("same with a NUMBER", "when same 1;", 2, 10);
        year("a NAME", "when a;", 2, 5);
        year("another kept WORD", "when night;", 2, 5);
        year("a NUMBER", "when 1;", 2, 5);
    }

    private static void yearNames() {
        year("9 letters", "mayor abcdefghi;", 2, 6);
        year("a NUMBER", "mayor 1;", 2, 6);
        year("none", "mayor;", 2, 5);
        for (String kept : KEPT.split(" ")) {
            year("kept", "mayor " + kept + ";", 2, 6);
        }
        year("a CITIZEN's", "mayor c;", 3, 6);
        year("of nothing", "mayor e;", 3, 6);
        year("of 8 letters, of nothing", "mayor abcdefgh;", 3, 6);
        year("a RULE's and a letter", "mayor aa;", 3, 6);
        R.on("town: " + TWO);
        year("without RULES", "mayor a;", 3, 6);
        R.on("town: " + TWO + "rule a;", "town: " + TWO + "rule b;");
        year("a RULE's of the TOWN ahead", "mayor a;", 3, 6);
        R.on(Rows.RICH);
    }

    private static void yearNumbers() {
        year("night 0", "night 0;", 4, 6);
        year("night 100", "night 100;", 4, 6);
        year("loop 0", "loop 0;end;", 4, 5);
        year("loop 100", "loop 100;end;", 4, 5);
        year("storm 17", "storm 17;", 4, 6);
        year("lit 31", "when lit>31;end;", 4, 9);
        year("lit 31, less", "when lit<31;end;", 4, 9);
        year("lit 31, as many", "when lit=31;end;", 4, 9);
        year("9999", "night 9999;", 4, 6);
    }

    private static void yearPlaces() {
        year("turn: x is WIDE", "turn 3 0;", 4, 5);
        year("turn: y is ROWS", "turn 0 2;", 4, 7);
        year("turn: both", "turn 3 2;", 4, 5);
        year("lamp: x is WIDE", "when lamp 3 0;end;", 4, 10);
        year("lamp: y is ROWS", "when lamp 0 2;end;", 4, 12);
        year("lamp: both", "when lamp 3 2;end;", 4, 10);
        year("x is wrong though y does not follow", "turn 3;", 4, 5);
        R.on("town: wide 5;row ddddd;", "town: " + TWO);
        year("of the TOWN ahead", "turn 2 0;", 4, 5);
        R.on(Rows.RICH);
    }

    private static void yearTooMany() {
        year("a 31st STEP", THIRTY + "birth;", 6, 240);
        year("a 31st STEP, at its WORD", THIRTY + "birth", 6, 240);
        year("a 31st STEP that can't be", THIRTY + "night 0;", 6, 240);
        year("a 31st STEP that is a stop", THIRTY + "stop;", 6, 240);
        year("a 31st STEP that is a loop", THIRTY + "loop 1;end;", 6, 240);
        year("a 31st STEP that is a when", THIRTY + "when same;end;", 6, 240);
        year("a 31st STEP with a loop ahead", "loop 2;" + THIRTY, 6, 7 + 29 * 8);
        year("a 31st STEP with a when and its end ahead", "when same;end;" + THIRTY, 6, 14 + 29 * 8);
        year("an end without a beginning behind 30", THIRTY + "end;", 2, 240);
        year("no STEP behind 30", THIRTY + "a;", 2, 240);
    }

    private static void yearTooDeep() {
        year("a fourth loop", "loop 1;loop 1;loop 1;loop 1;end;end;end;end;", 7, 21);
        year("a fourth loop, at its WORD", "loop 1;loop 1;loop 1;loop", 7, 21);
        year("a fourth loop that can't be", "loop 1;loop 1;loop 1;loop 0;", 7, 21);
        year("a fourth when", "when same;when same;when same;when same;", 7, 30);
        year("a loop in three others", "loop 1;when same;loop 1;loop 1;", 7, 24);
        year("a when in three others", "when same;loop 1;when same;when same;", 7, 27);
        year("a fourth behind one that has its end", "loop 1;loop 1;loop 1;end;loop 1;loop 1;", 7, 32);
        year("a 31st STEP, too deep: the least kind", "loop 1;loop 1;loop 1;" + THIRTY.substring(24) + "loop 1;", 6, 237);
    }

    private static void rightYears() {
        R.gives("no STEPS", "year: ", 0, "live 0 = 0", "status = 0");
        R.gives("blanks alone", "year:  \n ", 0, "live 0 = 0", "status = 0");
        R.gives("one STEP", "year: night 1;", 1, "fault 0 = 0", "fault 1 = -1", "live 0 = 1", "lived 1 = 1");
        R.gives("30 STEPS", "year: " + THIRTY, 30, "live 0 = 30", "lived 1 = 30");
        R.gives("ends are no STEPS", "year: " + THIRTY.substring(24) + "loop 1;loop 1;loop 1;end;end;end;", 30,
            "live 0 = 30");
        R.gives("300 bytes", "year: night 3;" + " ".repeat(292), 1, "live 0 = 1", "lived 1 = 3");
        R.gives("3 deep", "year: loop 1;when lit>0;loop 1;night 1;end;end;end;", 4, "live 0 = 4");
        R.gives("3 deep again and again", "year: loop 1;loop 2;loop 3;end;loop 3;end;end;when same;end;end;"
            + "loop 1;loop 1;loop 1;end;end;end;", 8);
        R.gives("no blanks but between WORDS", "year: turn 0 0;when lamp 0 0;storm 0;end;when lit<3;end;", 4);
        R.gives("lines everywhere", "year: \nturn\n0\n0\n;when\nlit\n<\n3\n;\nend\n;\n", 2);
        R.gives("in place of that ahead", "year: birth;", 1, "live 0 = 1", "lived 1 = 0");
    }

    private static void rightSteps() {
        R.gives("night 99", "year: night 99;", 1, "live 0 = 1", "lived 1 = 99");
        R.gives("night 0099", "year: night 0099;", 1, "live 0 = 1", "lived 1 = 99");
        R.gives("turn, the first PLACE", "year: turn 0 0;", 1, "live 0 = 1", "lived 0 = 0", "picture = 42");
        R.gives("turn, the last PLACE", "year: turn 2 1;", 1, "live 0 = 1", "lived 0 = 0", "picture = 11");
        R.gives("turn where no house is", "year: turn 2 0;", 1, "live 0 = 1", "lived 0 = 1");
        R.gives("the first RULE", "year: mayor a;", 1, "live 0 = 1", "told 10 = 0");
        R.gives("the last RULE", "year: mayor b;", 1, "live 0 = 1", "told 10 = 1");
        R.gives("storm 0", "year: storm 0;", 1, "live 0 = 1", "lived 2 = 0");
        R.gives("storm 16", "year: storm 16;", 1, "live 0 = 1", "lived 2 = 3");
        R.gives("loop 1", "year: loop 1;night 1;end;", 2, "live 0 = 2", "lived 1 = 1");
        R.gives("loop 99", "year: loop 99;night 1;end;", 2, "live 0 = 100", "lived 1 = 99");
        R.gives("elect, birth, stop", "year: elect;birth;stop;", 3, "live 0 = 3");
        R.on("town: " + ONE + "rule a;rule abcdefgh;", "year: mayor abcdefgh;");
        R.gives("a RULE of 8 letters", "live 0", 1, "told 10 = 1");
        R.on(Rows.RICH);
    }

    private static void rightTests() {
        R.gives("lit<0", "year: when lit<0;end;", 1);
        R.gives("lit>30", "year: when lit>30;end;", 1);
        R.gives("lit=30", "year: when lit = 30;end;", 1);
        R.gives("lamp, the first PLACE", "year: when lamp 0 0;night 1;end;", 2, "live 0 = 2");
        R.gives("lamp, the last PLACE", "year: when lamp 2 1;night 1;end;", 2, "live 0 = 2");
        R.gives("lamp where no house is", "year: when lamp 2 0;night 1;end;", 2, "live 0 = 1");
        R.gives("same", "year: when same;end;", 1);
    }
}
