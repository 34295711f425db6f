import java.util.Arrays;

/** A town on a hill at night: lamps that are lit or not by their neighbours and the mayor's rule. */
public final class WindowHill {
    public static final int NONE = -1;

    private static final int BAD_NUMBER = 1;
    private static final int NO_TRAY = 2;
    private static final int TOO_FEW = 3;
    private static final int TOO_MANY = 4;
    private static final int BAD_IN_TRAY = 5;
    private static final int NONE_SUCH = 6;
    private static final int CANNOT = 7;
    private static final int UNLIKE_SORTS = 8;
    private static final int FAULTY = 9;

    private static final int MOST_NIGHTS = 999;
    private static final int MOST_TURNED_NIGHTS = 30;
    private static final int MOST_FAR = 999999999;
    private static final int MOST_OIL = 9999;
    private static final int MOST_PICTURE = (1 << 30) - 1;
    private static final int MOST_SEED = 9999;
    private static final int MOST_MARKS = 3;

    private final Trays trays = new Trays();
    private final Tokens tokens = new Tokens();
    private final Town[] marks = {new Town(), new Town(), new Town()};
    private final Ancestry ancestry = new Ancestry();
    private final Paths paths = new Paths();
    private final Turning turning = new Turning();
    private final Living living = new Living();
    private final Living trial = new Living();
    private Town present = new Town();
    private Town spare = new Town();
    private int markCount;
    private int status;
    private long top;
    private long bottom = 1;
    private boolean hasLived;

    public WindowHill() {
        present.makeOneDarkHouse();
    }

    public int status() {
        return status;
    }

    public long top() {
        return top;
    }

    public long bottom() {
        return bottom;
    }

    // ---- TRAYS

    public boolean tray(int tray, int sort, int many) {
        if (!Trays.isTray(tray) || sort < 0 || sort > 3 || many < 0 || many > Trays.MOST) {
            return deny(BAD_NUMBER);
        }
        trays.make(tray, sort, many);
        return allow();
    }

    public boolean write(int tray, int place, long v) {
        int why = whyNotInTray(tray, place);
        if (why != 0) {
            return deny(why);
        }
        trays.put(tray, place, v);
        return allow();
    }

    public long read(int tray, int place) {
        int why = whyNotInTray(tray, place);
        if (why != 0) {
            return refuse(why);
        }
        status = 0;
        return trays.numberAt(tray, place);
    }

    public boolean pour(int from, int place, int to, int at, int many) {
        if (!Trays.isTray(from) || !Trays.isTray(to) || place < 0 || at < 0 || many < 0) {
            return deny(BAD_NUMBER);
        }
        if (trays.isMissing(from) || trays.isMissing(to)) {
            return deny(NO_TRAY);
        }
        if (!trays.areOfOneSort(from, to)) {
            return deny(UNLIKE_SORTS);
        }
        if (!trays.hasRoom(from, place, many) || !trays.hasRoom(to, at, many)) {
            return deny(TOO_FEW);
        }
        trays.copy(from, place, to, at, many);
        return allow();
    }

    // ---- texts

    public int feed(int a, int b, int c, int d, int e) {
        if (!tokens.hasRoomFor(20)) {
            return NONE;
        }
        tokens.append(a);
        tokens.append(b);
        tokens.append(c);
        tokens.append(d);
        tokens.append(e);
        return tokens.fed;
    }

    public int town(int n) {
        if (n < 0 || n > tokens.fed) {
            return refuse(BAD_NUMBER);
        }
        tokens.begin(n);
        boolean taken = TownReader.takeTown(tokens, spare);
        if (!taken) {
            return refuse(FAULTY);
        }
        Town old = present;
        present = spare;
        spare = old;
        return answer(Integer.bitCount(present.hill.house));
    }

    public int year(int n) {
        if (n < 0 || n > tokens.fed || n > Year.MOST_BYTES) {
            return refuse(BAD_NUMBER);
        }
        tokens.begin(n);
        spare.year.makeEmpty();
        boolean taken = YearReader.takeYear(tokens, present, spare.year);
        if (!taken) {
            return refuse(FAULTY);
        }
        present.year.copyFrom(spare.year);
        return answer(present.year.steps);
    }

    public int fault(int what) {
        if (what == 0) {
            return tokens.fault;
        }
        return what == 1 ? tokens.faultPlace : NONE;
    }

    public int told(int what) {
        Hill hill = present.hill;
        switch (what) {
            case 0: return answer(hill.wide);
            case 1: return answer(hill.rows);
            case 2: return answer(Integer.bitCount(hill.house));
            case 3: return answer(Integer.bitCount(present.picture));
            case 4: return answer(Integer.bitCount(hill.house & ~hill.free));
            case 5: return answer(present.rules);
            case 6: return answer(present.citizens);
            case 7: return answer(present.nights);
            case 8: return answer(present.oil);
            case 9: return answer(hill.joined ? 1 : 0);
            case 10: return present.rules == 0 ? refuse(NONE_SUCH) : answer(present.mayor);
            default: return refuse(BAD_NUMBER);
        }
    }

    public long picture() {
        return answer(present.picture);
    }

    public int lamp(int x, int y, int what) {
        Hill hill = present.hill;
        int place = hill.placeOf(x, y);
        if (place < 0 || what < 0 || what > 3) {
            return refuse(BAD_NUMBER);
        }
        int bit = 1 << place;
        if ((hill.house & bit) == 0) {
            return refuse(CANNOT);
        }
        switch (what) {
            case 0: return answer((present.picture & bit) != 0 ? 1 : 0);
            case 1: return answer(hill.countAround(bit, hill.house));
            case 2: return answer(hill.countAround(bit, present.picture));
            default: return answer((hill.free & bit) == 0 ? 1 : 0);
        }
    }

    public int rule(int rule, int what) {
        if (!present.hasRule(rule) || what < 0 || what > 1) {
            return refuse(BAD_NUMBER);
        }
        return answer(what == 0 ? present.bornBy[rule] : present.staysBy[rule]);
    }

    public int citizen(int citizen, int what) {
        if (!present.hasCitizen(citizen) || what < 0 || what > 1) {
            return refuse(BAD_NUMBER);
        }
        return answer(what == 0 ? present.least[citizen] : present.most[citizen]);
    }

    // ---- by hand

    public int turn(int x, int y) {
        int why = whyNotFree(x, y);
        if (why != 0) {
            return refuse(why);
        }
        int bit = 1 << present.hill.placeOf(x, y);
        present.picture ^= bit;
        return answer((present.picture & bit) != 0 ? 1 : 0);
    }

    public int paint(long picture) {
        if (!isPicture(picture)) {
            return refuse(BAD_NUMBER);
        }
        return answer(present.repaint((int) picture));
    }

    public int paintRows(int tray) {
        int rows = present.hill.rows;
        int why = whyNotInTray(tray, rows - 1);
        if (why != 0) {
            return refuse(why);
        }
        int wanted = 0;
        for (int y = 0; y < rows; y++) {
            long row = trays.numberAt(tray, y);
            if (row < 0 || row > 31) {
                return refuse(BAD_IN_TRAY);
            }
            wanted |= ((int) row & present.hill.rowMask()) << (y * present.hill.wide);
        }
        return answer(present.repaint(wanted));
    }

    public int copyRows(int tray) {
        int rows = present.hill.rows;
        int why = whyNotInTray(tray, rows - 1);
        if (why != 0) {
            return refuse(why);
        }
        for (int y = 0; y < rows; y++) {
            trays.put(tray, y, present.hill.rowOf(present.picture, y));
        }
        return answer(rows);
    }

    public boolean mayor(int rule) {
        if (!present.hasRule(rule)) {
            return deny(BAD_NUMBER);
        }
        present.mayor = rule;
        return allow();
    }

    public boolean bend(int rule, int born, int stays) {
        if (!present.hasRule(rule) || born < 0 || born > 31 || stays < 0 || stays > 31) {
            return deny(BAD_NUMBER);
        }
        present.bornBy[rule] = born;
        present.staysBy[rule] = stays;
        return allow();
    }

    // ---- nights

    public int night(int many) {
        if (many < 1 || many > MOST_NIGHTS) {
            return refuse(BAD_NUMBER);
        }
        present.passNights(many);
        return answer(Integer.bitCount(present.picture));
    }

    public long ahead(int nights) {
        if (nights < 0 || nights > MOST_NIGHTS) {
            return refuse(BAD_NUMBER);
        }
        return answer(present.after(present.picture, nights));
    }

    public int again(int what) {
        if (what < 0 || what > 1) {
            return refuse(BAD_NUMBER);
        }
        if (!paths.findRound(present)) {
            return refuse(CANNOT);
        }
        return answer(what == 0 ? paths.lead : paths.round);
    }

    public long far(int nights) {
        if (nights < 0 || nights > MOST_FAR) {
            return refuse(BAD_NUMBER);
        }
        if (!paths.findRound(present)) {
            return refuse(CANNOT);
        }
        return answer(paths.farAhead(present, nights));
    }

    public int walks(int what) {
        if (what < 0 || what > 2) {
            return refuse(BAD_NUMBER);
        }
        if (!paths.findWalk(present)) {
            return refuse(NONE_SUCH);
        }
        if (what == 0) {
            return answer(paths.walkNight);
        }
        return answer(what == 1 ? paths.walkRight : paths.walkDown);
    }

    public int still() {
        return answer(present.isStill() ? 1 : 0);
    }

    public int next(int what) {
        int now = present.picture;
        int then = present.nextOf(now);
        switch (what) {
            case 0: return answer(Integer.bitCount(then & ~now));
            case 1: return answer(Integer.bitCount(now & ~then));
            case 2: return answer(Integer.bitCount(now & then));
            default: return refuse(BAD_NUMBER);
        }
    }

    public int oil(int much) {
        if (much < 0 || much > MOST_OIL) {
            return refuse(BAD_NUMBER);
        }
        int lit = present.picture;
        int burnt = 0;
        int nights = 0;
        while (nights < MOST_NIGHTS) {
            burnt += Integer.bitCount(lit);
            if (burnt > much) {
                break;
            }
            lit = present.nextOf(lit);
            nights++;
        }
        return answer(nights);
    }

    public int brightest(int nights) {
        if (nights < 0 || nights > MOST_NIGHTS) {
            return refuse(BAD_NUMBER);
        }
        int lit = present.picture;
        int most = Integer.bitCount(lit);
        for (int night = 0; night < nights; night++) {
            lit = present.nextOf(lit);
            most = Math.max(most, Integer.bitCount(lit));
        }
        return answer(most);
    }

    // ---- what was, what stays

    public long ancestors() {
        return answer(ancestry.countWays(present, false));
    }

    public long ancestor() {
        return ancestry.countWays(present, false) == 0 ? refuse(NONE_SUCH) : answer(ancestry.leastFound());
    }

    public long stills() {
        return answer(ancestry.countWays(present, true));
    }

    public long firstStill() {
        return ancestry.countWays(present, true) == 0 ? refuse(NONE_SUCH) : answer(ancestry.leastFound());
    }

    public long pictures() {
        return answer(1 << Integer.bitCount(present.hill.free));
    }

    // ---- turned by hand

    public int signal(int x, int y, int nights, int what) {
        int place = present.hill.placeOf(x, y);
        if (place < 0 || !isTurnedNights(nights) || what < 0 || what > 1) {
            return refuse(BAD_NUMBER);
        }
        if ((present.hill.house & 1 << place) == 0) {
            return refuse(CANNOT);
        }
        if (!turning.findSignal(present, 1 << place, nights)) {
            return refuse(NONE_SUCH);
        }
        return answer(what == 0 ? Integer.bitCount(turning.turned) : turning.turned);
    }

    public int spoils(int x, int y, int nights) {
        if (!isTurnedNights(nights)) {
            return refuse(BAD_NUMBER);
        }
        int why = whyNotFree(x, y);
        if (why != 0) {
            return refuse(why);
        }
        return answer(Turning.countSpoilt(present, 1 << present.hill.placeOf(x, y), nights));
    }

    public int worst(int nights, int what) {
        if (!isTurnedNights(nights) || what < 0 || what > 1) {
            return refuse(BAD_NUMBER);
        }
        if (present.hill.free == 0) {
            return refuse(NONE_SUCH);
        }
        turning.findWorst(present, nights);
        return answer(what == 0 ? turning.worstPlace : turning.worstSpoilt);
    }

    public int mend(long picture, int what) {
        if (!isPicture(picture) || what < 0 || what > 1) {
            return refuse(BAD_NUMBER);
        }
        turning.findMend(present, (int) picture);
        return answer(what == 0 ? turning.unlikeThen : turning.turned);
    }

    public int unlike(long picture) {
        if (!isPicture(picture)) {
            return refuse(BAD_NUMBER);
        }
        return answer(present.hill.countUnlike(present.picture, (int) picture));
    }

    // ---- what was SEEN

    public int seen(int state, int neighbours) {
        if (state < 0 || state > 1 || neighbours < 0 || neighbours > 4) {
            return refuse(BAD_NUMBER);
        }
        return answer(present.seen[state * 5 + neighbours]);
    }

    public int rulesLeft() {
        return answer(present.countRulesLeft());
    }

    public int fits() {
        int set = 0;
        for (int rule = 0; rule < present.rules; rule++) {
            set |= present.ruleFits(rule) ? 1 << rule : 0;
        }
        return answer(set);
    }

    public int forget() {
        return answer(present.forgetSeen());
    }

    public int shows() {
        return answer(present.countNewToSee());
    }

    // ---- ELECTIONS

    public int vote(int citizen) {
        if (!present.hasCitizen(citizen)) {
            return refuse(BAD_NUMBER);
        }
        if (present.rules == 0) {
            return refuse(NONE_SUCH);
        }
        present.lookAtRules();
        return answer(present.choiceOf(citizen));
    }

    public int votes(int rule) {
        if (!present.hasRule(rule)) {
            return refuse(BAD_NUMBER);
        }
        present.lookAtRules();
        return answer(present.countVotes(rule));
    }

    public int elect() {
        return present.holdElection() ? answer(present.mayor) : refuse(NONE_SUCH);
    }

    // ---- SHIPS

    public int reads(int k, int what) {
        Hill hill = present.hill;
        if (what == 0 && k >= 0 && k < hill.rows) {
            return answer(hill.rowOf(present.picture, k));
        }
        if (what == 1 && k >= 0 && k < hill.wide) {
            return answer(hill.columnOf(present.picture, k));
        }
        return refuse(BAD_NUMBER);
    }

    public int mirror() {
        return answer(present.hill.isMirror(present.picture) ? 1 : 0);
    }

    public int heaps(int what) {
        if (what < 0 || what > 1) {
            return refuse(BAD_NUMBER);
        }
        int left = present.picture;
        int many = 0;
        int largest = 0;
        for (int place = 0; place < 30 && left != 0; place++) {
            int heap = present.hill.heapOf(left & -left, left);
            left &= ~heap;
            many++;
            largest = Math.max(largest, Integer.bitCount(heap));
        }
        return answer(what == 0 ? many : largest);
    }

    public int heap(int x, int y) {
        int place = present.hill.placeOf(x, y);
        if (place < 0) {
            return refuse(BAD_NUMBER);
        }
        int bit = 1 << place;
        if ((present.hill.house & bit) == 0) {
            return refuse(CANNOT);
        }
        return answer(Integer.bitCount(present.hill.heapOf(bit & present.picture, present.picture)));
    }

    public boolean company() {
        int lit = present.picture;
        if (lit == 0) {
            return deny(NONE_SUCH);
        }
        present.hill.countLit(lit);
        int sum = 0;
        for (int many = 1; many < 5; many++) {
            sum += many * Integer.bitCount(present.hill.withLit[many] & lit);
        }
        tellFraction(sum, Integer.bitCount(lit));
        return allow();
    }

    // ---- YEARS

    public int live(int seed) {
        if (seed < 0 || seed > MOST_SEED) {
            return refuse(BAD_NUMBER);
        }
        if (!present.year.there) {
            return refuse(NONE_SUCH);
        }
        living.liveBy(present, seed);
        hasLived = true;
        return answer(living.steps);
    }

    public int lived(int what) {
        if (what < 0 || what > 4) {
            return refuse(BAD_NUMBER);
        }
        if (!hasLived) {
            return refuse(NONE_SUCH);
        }
        switch (what) {
            case 0: return answer(living.missed);
            case 1: return answer(living.nights);
            case 2: return answer(living.putOut);
            case 3: return answer(living.births);
            default: return answer(living.left ? 1 : 0);
        }
    }

    public boolean mean(int seed, int many) {
        if (seed < 0 || seed > MOST_SEED || many < 1 || many > 20 || seed + many - 1 > MOST_SEED) {
            return deny(BAD_NUMBER);
        }
        if (!present.year.there) {
            return deny(NONE_SUCH);
        }
        int sum = 0;
        for (int year = 0; year < many; year++) {
            spare.copyFrom(present);
            trial.liveBy(spare, seed + year);
            sum += Integer.bitCount(spare.picture);
        }
        tellFraction(sum, many);
        return allow();
    }

    // ---- MARKS

    public int mark() {
        if (markCount < 0 || markCount >= MOST_MARKS) {
            return refuse(TOO_MANY);
        }
        marks[markCount].copyFrom(present);
        markCount++;
        return answer(markCount);
    }

    public int back() {
        if (markCount < 1 || markCount > MOST_MARKS) {
            return refuse(NONE_SUCH);
        }
        markCount--;
        present.copyFrom(marks[markCount]);
        return answer(markCount);
    }

    // ---- what several calls need

    private int answer(int value) {
        status = 0;
        return value;
    }

    private int refuse(int why) {
        status = why;
        return NONE;
    }

    private boolean allow() {
        status = 0;
        return true;
    }

    private boolean deny(int why) {
        status = why;
        return false;
    }

    /** The STATUS by which a place of a TRAY can't be used, or 0. */
    private int whyNotInTray(int tray, int place) {
        if (!Trays.isTray(tray)) {
            return BAD_NUMBER;
        }
        if (trays.isMissing(tray)) {
            return NO_TRAY;
        }
        return trays.hasRoom(tray, place, 1) ? 0 : TOO_FEW;
    }

    /** The STATUS by which no lamp at x, y can be turned, or 0. */
    private int whyNotFree(int x, int y) {
        int place = present.hill.placeOf(x, y);
        if (place < 0) {
            return BAD_NUMBER;
        }
        return (present.hill.free & 1 << place) == 0 ? CANNOT : 0;
    }

    private static boolean isPicture(long picture) {
        return picture >= 0 && picture <= MOST_PICTURE;
    }

    private static boolean isTurnedNights(int nights) {
        return nights >= 0 && nights <= MOST_TURNED_NIGHTS;
    }

    private void tellFraction(int over, int under) {
        int divisor = commonDivisor(over, under);
        if (divisor > 0) {
            top = over / divisor;
            bottom = under / divisor;
        }
    }

    private static int commonDivisor(int a, int b) {
        int large = a;
        int small = b;
        for (int round = 0; round < 64 && small != 0; round++) {
            int rest = large % small;
            large = small;
            small = rest;
        }
        return large;
    }

    /** Four rows of numbers; a size below 0 is a TRAY that is missing. */
    private static final class Trays {
        private static final int MOST = 60;
        private final long[] numbers = new long[4 * MOST];
        private final int[] sorts = new int[4];
        private final int[] sizes = {-1, -1, -1, -1};

        private static boolean isTray(int tray) {
            return tray >= 0 && tray < 4;
        }

        private boolean isMissing(int tray) {
            return sizes[tray] < 0;
        }

        private boolean areOfOneSort(int tray, int other) {
            return sorts[tray] == sorts[other];
        }

        private boolean hasRoom(int tray, int place, int many) {
            return place >= 0 && (long) place + many <= sizes[tray];
        }

        private void make(int tray, int sort, int many) {
            sorts[tray] = sort;
            sizes[tray] = many;
            for (int place = 0; place < many; place++) {
                numbers[tray * MOST + place] = 0;
            }
        }

        private long numberAt(int tray, int place) {
            return numbers[tray * MOST + place];
        }

        private void put(int tray, int place, long v) {
            numbers[tray * MOST + place] = cut(sorts[tray], v);
        }

        private static long cut(int sort, long v) {
            switch (sort) {
                case 0: return (byte) v;
                case 1: return (short) v;
                case 2: return (int) v;
                default: return v;
            }
        }

        private void copy(int from, int place, int to, int at, int many) {
            System.arraycopy(numbers, from * MOST + place, numbers, to * MOST + at, many);
        }
    }

    /** The tape, and the TOKENS of a text on it, read ahead in a row; one of them is looked at now. */
    private static final class Tokens {
        private static final int MOST = 900;
        private static final int LONGEST_NAME = 8;
        private static final int LONGEST_NUMBER = 4;
        private static final int KEPT_WORDS = 22;
        /** The WORDS that are no NAMES, each by its number below. */
        private static final String WORDS =
            "wide ring row rule born stays citizen likes to night turn mayor elect storm birth when lit lamp same loop end stop";
        private static final int WIDE = 0;
        private static final int RING = 1;
        private static final int ROW = 2;
        private static final int RULE = 3;
        private static final int BORN = 4;
        private static final int STAYS = 5;
        private static final int CITIZEN = 6;
        private static final int LIKES = 7;
        private static final int TO = 8;
        private static final int NIGHT = 9;
        private static final int TURN = 10;
        private static final int MAYOR = 11;
        private static final int ELECT = 12;
        private static final int STORM = 13;
        private static final int BIRTH = 14;
        private static final int WHEN = 15;
        private static final int LIT = 16;
        private static final int LAMP = 17;
        private static final int SAME = 18;
        private static final int LOOP = 19;
        private static final int END = 20;
        private static final int STOP = 21;

        private static final int BAD = 0;
        private static final int TEXT_END = 1;
        private static final int NUMBER = 2;
        private static final int SIGN = 3;
        private static final int WORD = 4;

        private static final int NO_TOKEN = 1;
        private static final int MISPLACED = 2;
        private static final int WRONG_NAME = 3;
        private static final int WRONG_NUMBER = 4;
        private static final int TOLD_ALREADY = 5;
        private static final int ONE_TOO_MANY = 6;
        private static final int TOO_DEEP = 7;

        private final byte[] tape = new byte[MOST];
        private final long[] keptCodes = new long[KEPT_WORDS];
        private final byte[] kinds = new byte[MOST + 1];
        private final short[] starts = new short[MOST + 1];
        private final short[] lengths = new short[MOST + 1];
        /** A NUMBER, a SIGN's letter, or a WORD's number (none: -1). */
        private final short[] values = new short[MOST + 1];
        /** The letters of a WORD as one number. */
        private final long[] codes = new long[MOST + 1];
        private int fed;
        private int length;
        private int count;
        private int at;
        private int taken;
        private int fault = NONE;
        private int faultPlace = NONE;

        private Tokens() {
            int word = 0;
            for (int i = 0; i < WORDS.length(); i++) {
                char sign = WORDS.charAt(i);
                if (sign == ' ') {
                    word++;
                } else if (word < KEPT_WORDS) {
                    keptCodes[word] = keptCodes[word] * 27 + (sign - 'a' + 1);
                }
            }
        }

        private boolean hasRoomFor(int bytes) {
            return fed + bytes <= MOST;
        }

        private void append(int four) {
            for (int shift = 24; shift >= 0 && fed < MOST; shift -= 8) {
                tape[fed] = (byte) (four >> shift);
                fed++;
            }
        }

        /** The first bytes of the tape are the text now, and its first TOKEN is looked at; the tape is empty. */
        private void begin(int bytes) {
            length = Math.min(bytes, fed);
            fed = 0;
            fault = 0;
            faultPlace = NONE;
            count = 0;
            at = 0;
            int place = skipBlanks(0);
            while (place < length && count < MOST) {
                place = skipBlanks(place + addToken(place));
            }
            note(TEXT_END, length, 0, 0);
        }

        private int skipBlanks(int from) {
            int place = from;
            while (place < length && (tape[place] == ' ' || tape[place] == 10)) {
                place++;
            }
            return place;
        }

        private void note(int kind, int start, int size, int value) {
            if (count <= MOST) {
                kinds[count] = (byte) kind;
                starts[count] = (short) start;
                lengths[count] = (short) size;
                values[count] = (short) value;
                count++;
            }
        }

        /** Notes the TOKEN that begins at a place: its length. */
        private int addToken(int start) {
            int first = tape[start];
            if (first >= 'a' && first <= 'z') {
                return addWord(start);
            }
            if (first >= '0' && first <= '9') {
                return addNumber(start);
            }
            boolean isSign = first == ';' || first == '<' || first == '>' || first == '=';
            note(isSign ? SIGN : BAD, start, 1, first);
            return 1;
        }

        private int addWord(int start) {
            int end = start;
            long code = 0;
            while (end < length && tape[end] >= 'a' && tape[end] <= 'z') {
                code = end - start < LONGEST_NAME ? code * 27 + (tape[end] - 'a' + 1) : -1;
                end++;
            }
            int number = -1;
            for (int word = 0; word < KEPT_WORDS; word++) {
                if (keptCodes[word] == code) {
                    number = word;
                }
            }
            if (count <= MOST) {
                codes[count] = code;
            }
            note(WORD, start, end - start, number);
            return end - start;
        }

        private int addNumber(int start) {
            int end = start;
            int number = 0;
            while (end < length && tape[end] >= '0' && tape[end] <= '9') {
                number = end - start < LONGEST_NUMBER ? number * 10 + (tape[end] - '0') : 0;
                end++;
            }
            note(end - start > LONGEST_NUMBER ? BAD : NUMBER, start, end - start, number);
            return end - start;
        }

        private boolean isEnd() {
            return kinds[at] == TEXT_END;
        }

        private boolean isNumber() {
            return kinds[at] == NUMBER;
        }

        private boolean isWord(int word) {
            return kinds[at] == WORD && values[at] == word;
        }

        private boolean isSign(int sign) {
            return kinds[at] == SIGN && values[at] == sign;
        }

        private boolean isName() {
            return kinds[at] == WORD && values[at] < 0 && lengths[at] <= LONGEST_NAME;
        }

        /** Which of the kept WORDS this is, or NONE. */
        private int wordNumber() {
            return kinds[at] == WORD ? values[at] : NONE;
        }

        private boolean isWordOf(int letters) {
            return kinds[at] == WORD && lengths[at] == letters;
        }

        private int letterAt(int i) {
            return i >= 0 && i < lengths[at] ? tape[starts[at] + i] : NONE;
        }

        private int value() {
            return values[at];
        }

        private long name() {
            return codes[at];
        }

        private void advance() {
            if (at < count - 1) {
                at++;
            }
        }

        /** Notes a FAULT at this TOKEN; always false. What begins as no TOKEN does is FAULT 1 wherever it stands. */
        private boolean fail(int why) {
            fault = kinds[at] == BAD ? NO_TOKEN : why;
            faultPlace = starts[at];
            return false;
        }

        private boolean takeWord(int word) {
            if (!isWord(word)) {
                return fail(MISPLACED);
            }
            advance();
            return true;
        }

        private boolean takeSign(int sign) {
            if (!isSign(sign)) {
                return fail(MISPLACED);
            }
            advance();
            return true;
        }

        private boolean takeNumber(int least, int most) {
            if (!isNumber()) {
                return fail(MISPLACED);
            }
            if (value() < least || value() > most) {
                return fail(WRONG_NUMBER);
            }
            taken = value();
            advance();
            return true;
        }
    }

    /** The PLACES and who is whose NEIGHBOUR. Sets of PLACES are ints, bit WIDE times y and x for a PLACE. */
    private static final class Hill {
        private static final int MOST_WIDE = 5;
        private static final int MOST_ROWS = 6;
        private int wide = 1;
        private int rows;
        private boolean joined;
        private int places;
        private int house;
        private int free;
        private int always;
        private int firstColumn;
        private int lastColumn;
        /** Of the picture counted latest: the PLACES with 0 to 4 lit NEIGHBOURS. */
        private final int[] withLit = new int[5];

        private void start(int width, boolean ring) {
            wide = width;
            joined = ring && width > 2;
            rows = 0;
            places = 0;
            house = 0;
            free = 0;
            always = 0;
            firstColumn = 0;
            lastColumn = 0;
        }

        private void addRow() {
            firstColumn |= 1 << rows * wide;
            lastColumn |= 1 << rows * wide + wide - 1;
            rows++;
            places = (1 << rows * wide) - 1;
        }

        private void copyFrom(Hill other) {
            wide = other.wide;
            rows = other.rows;
            joined = other.joined;
            places = other.places;
            house = other.house;
            free = other.free;
            always = other.always;
            firstColumn = other.firstColumn;
            lastColumn = other.lastColumn;
        }

        private int placeOf(int x, int y) {
            return x >= 0 && x < wide && y >= 0 && y < rows ? y * wide + x : -1;
        }

        private int rowMask() {
            return (1 << wide) - 1;
        }

        private int rowOf(int picture, int y) {
            return picture >> y * wide & rowMask();
        }

        private int columnOf(int picture, int x) {
            int column = 0;
            for (int y = 0; y < rows; y++) {
                column |= (picture >> y * wide + x & 1) << y;
            }
            return column;
        }

        /** All PLACES with a NEIGHBOUR in a set. */
        private int around(int lit) {
            int around = (lit & ~lastColumn) << 1 | (lit & ~firstColumn) >> 1 | lit << wide & places | lit >> wide;
            if (joined) {
                around |= (lit & lastColumn) >> wide - 1 | (lit & firstColumn) << wide - 1;
            }
            return around;
        }

        /** Counts the lit NEIGHBOURS of all PLACES at once: four sets are added up by their sums' binary digits. */
        private void countLit(int lit) {
            int left = (lit & ~lastColumn) << 1;
            int right = (lit & ~firstColumn) >> 1;
            int above = lit << wide & places;
            int below = lit >> wide;
            if (joined) {
                left |= (lit & lastColumn) >> wide - 1;
                right |= (lit & firstColumn) << wide - 1;
            }
            int oneBeside = left ^ right;
            int bothBeside = left & right;
            int oneUpDown = above ^ below;
            int bothUpDown = above & below;
            int ones = oneBeside ^ oneUpDown;
            int twos = bothBeside ^ bothUpDown ^ (oneBeside & oneUpDown);
            int fours = bothBeside & bothUpDown;
            withLit[0] = ~(ones | twos | fours);
            withLit[1] = ones & ~twos;
            withLit[2] = twos & ~ones;
            withLit[3] = ones & twos;
            withLit[4] = fours;
        }

        private int step(int lit, int born, int stays) {
            countLit(lit);
            int then = 0;
            for (int many = 0; many < 5; many++) {
                int kept = (born >> many & 1) != 0 ? ~lit : 0;
                kept |= (stays >> many & 1) != 0 ? lit : 0;
                then |= kept & withLit[many];
            }
            return then & free | always;
        }

        private int countAround(int bit, int lit) {
            countLit(lit);
            for (int many = 1; many < 5; many++) {
                if ((withLit[many] & bit) != 0) {
                    return many;
                }
            }
            return 0;
        }

        private int countUnlike(int one, int other) {
            return Integer.bitCount((one ^ other) & places);
        }

        private int heapOf(int begun, int lit) {
            int heap = begun;
            for (int grown = 0; grown < 30; grown++) {
                int more = heap | around(heap) & lit;
                if (more == heap) {
                    break;
                }
                heap = more;
            }
            return heap;
        }

        private boolean isMirror(int picture) {
            for (int y = 0; y < rows; y++) {
                int row = rowOf(picture, y);
                for (int x = 0; x < wide; x++) {
                    if ((row >> x & 1) != (row >> wide - 1 - x & 1)) {
                        return false;
                    }
                }
            }
            return true;
        }
    }

    /** The TOWN with all that became of it, and its YEAR. */
    private static final class Town {
        private static final int MOST_RULES = 4;
        private static final int MOST_CITIZENS = 6;
        private final Hill hill = new Hill();
        private final Year year = new Year();
        private final long[] ruleNames = new long[MOST_RULES];
        private final int[] bornBy = new int[MOST_RULES];
        private final int[] staysBy = new int[MOST_RULES];
        /** Looked at while the text is read, not behind it: MARKS don't keep them. */
        private final long[] citizenNames = new long[MOST_CITIZENS];
        private final int[] least = new int[MOST_CITIZENS];
        private final int[] most = new int[MOST_CITIZENS];
        /** 1 dark, 2 lit; at 5 times the state and the lit NEIGHBOURS. */
        private final int[] seen = new int[10];
        private final int[] litBy = new int[MOST_RULES];
        private int rules;
        private int citizens;
        private int mayor;
        private int picture;
        private int nights;
        private int oil;

        private void makeOneDarkHouse() {
            makeEmpty(1, false);
            hill.addRow();
            addHouse(0, 'd');
        }

        private void makeEmpty(int wide, boolean ring) {
            hill.start(wide, ring);
            year.makeNone();
            rules = 0;
            citizens = 0;
            mayor = 0;
            picture = 0;
            nights = 0;
            oil = 0;
            Arrays.fill(seen, 0);
        }

        private void addHouse(int place, int letter) {
            int bit = 1 << place;
            if (letter != 'n') {
                hill.house |= bit;
            }
            if (letter == 'd' || letter == 'l') {
                hill.free |= bit;
            }
            if (letter == 'w') {
                hill.always |= bit;
            }
            if (letter == 'l' || letter == 'w') {
                picture |= bit;
            }
        }

        private void copyFrom(Town other) {
            hill.copyFrom(other.hill);
            year.copyFrom(other.year);
            System.arraycopy(other.ruleNames, 0, ruleNames, 0, MOST_RULES);
            System.arraycopy(other.bornBy, 0, bornBy, 0, MOST_RULES);
            System.arraycopy(other.staysBy, 0, staysBy, 0, MOST_RULES);
            System.arraycopy(other.least, 0, least, 0, MOST_CITIZENS);
            System.arraycopy(other.most, 0, most, 0, MOST_CITIZENS);
            System.arraycopy(other.seen, 0, seen, 0, seen.length);
            rules = other.rules;
            citizens = other.citizens;
            mayor = other.mayor;
            picture = other.picture;
            nights = other.nights;
            oil = other.oil;
        }

        private boolean hasRule(int rule) {
            return rule >= 0 && rule < rules;
        }

        private boolean hasCitizen(int citizen) {
            return citizen >= 0 && citizen < citizens;
        }

        private int ruleNamed(long name) {
            for (int rule = 0; rule < rules; rule++) {
                if (ruleNames[rule] == name) {
                    return rule;
                }
            }
            return NONE;
        }

        private boolean isNameTaken(long name) {
            for (int citizen = 0; citizen < citizens; citizen++) {
                if (citizenNames[citizen] == name) {
                    return true;
                }
            }
            return ruleNamed(name) >= 0;
        }

        private int bornNow() {
            return mayor >= 0 && mayor < rules ? bornBy[mayor] : 0;
        }

        private int staysNow() {
            return mayor >= 0 && mayor < rules ? staysBy[mayor] : 0;
        }

        private int nextOf(int lit) {
            return hill.step(lit, bornNow(), staysNow());
        }

        private int repaint(int wanted) {
            picture = picture & ~hill.free | wanted & hill.free;
            return Integer.bitCount(picture);
        }

        /** The picture that one becomes in so many nights, whole rounds left out as soon as one is found. */
        private int after(int from, int many) {
            int born = bornNow();
            int stays = staysNow();
            int lit = from;
            int anchor = from;
            int anchorNight = 0;
            int span = 1;
            for (int night = 1; night <= many; night++) {
                lit = hill.step(lit, born, stays);
                int round = night - anchorNight;
                if (lit == anchor && round > 0) {
                    night += (many - night) / round * round;
                } else if (round == span) {
                    anchor = lit;
                    anchorNight = night;
                    span *= 2;
                }
            }
            return lit;
        }

        private boolean isStill() {
            return hill.step(picture, bornNow(), staysNow()) == picture;
        }

        /** Nights go by; whole rounds are left out, for they burn what the first burnt and show nothing new. */
        private void passNights(int many) {
            int anchor = picture;
            int anchorNight = 0;
            int anchorOil = oil;
            int span = 1;
            for (int night = 1; night <= many; night++) {
                passNight();
                int round = night - anchorNight;
                if (picture == anchor && round > 0) {
                    int rounds = (many - night) / round;
                    oil += rounds * (oil - anchorOil);
                    night += rounds * round;
                } else if (round == span) {
                    anchor = picture;
                    anchorNight = night;
                    anchorOil = oil;
                    span *= 2;
                }
            }
            nights += many;
        }

        private void passNight() {
            int born = bornNow();
            int stays = staysNow();
            int then = hill.step(picture, born, stays);
            for (int many = 0; many < 5; many++) {
                int there = hill.withLit[many] & hill.free;
                if ((there & ~picture) != 0) {
                    seen[many] |= 1 << (born >> many & 1);
                }
                if ((there & picture) != 0) {
                    seen[5 + many] |= 1 << (stays >> many & 1);
                }
            }
            oil += Integer.bitCount(picture);
            picture = then;
        }

        private int countRulesLeft() {
            int left = 1;
            for (int what = 0; what < 10; what++) {
                if (seen[what] == 0) {
                    left *= 2;
                } else if (seen[what] == 3) {
                    left = 0;
                }
            }
            return left;
        }

        private boolean ruleFits(int rule) {
            int sets = bornBy[rule] | staysBy[rule] << 5;
            for (int what = 0; what < 10; what++) {
                if ((seen[what] & ~(1 << (sets >> what & 1))) != 0) {
                    return false;
                }
            }
            return true;
        }

        private int forgetSeen() {
            int many = 0;
            for (int what = 0; what < 10; what++) {
                many += seen[what] != 0 ? 1 : 0;
                seen[what] = 0;
            }
            return many;
        }

        private int countNewToSee() {
            hill.countLit(picture);
            int many = 0;
            for (int lit = 0; lit < 5; lit++) {
                int there = hill.withLit[lit] & hill.free;
                many += seen[lit] == 0 && (there & ~picture) != 0 ? 1 : 0;
                many += seen[5 + lit] == 0 && (there & picture) != 0 ? 1 : 0;
            }
            return many;
        }

        /** Ahead of choiceOf and countVotes: how many lamps each RULE would light the next night. */
        private void lookAtRules() {
            for (int rule = 0; rule < rules; rule++) {
                litBy[rule] = Integer.bitCount(hill.step(picture, bornBy[rule], staysBy[rule]));
            }
        }

        private int choiceOf(int citizen) {
            int best = 0;
            int bestWay = 100;
            for (int rule = 0; rule < rules; rule++) {
                int way = Math.max(0, Math.max(least[citizen] - litBy[rule], litBy[rule] - most[citizen]));
                if (way < bestWay) {
                    bestWay = way;
                    best = rule;
                }
            }
            return best;
        }

        private int countVotes(int rule) {
            int many = 0;
            for (int citizen = 0; citizen < citizens; citizen++) {
                many += choiceOf(citizen) == rule ? 1 : 0;
            }
            return many;
        }

        private boolean holdElection() {
            if (rules == 0 || citizens == 0) {
                return false;
            }
            lookAtRules();
            int best = 0;
            int bestVotes = -1;
            for (int rule = 0; rule < rules; rule++) {
                int many = countVotes(rule);
                if (many > bestVotes) {
                    bestVotes = many;
                    best = rule;
                }
            }
            mayor = best;
            return true;
        }
    }

    /** The entries of a YEAR as they stand: its STEPS, and the ends, which are none. */
    private static final class Year {
        private static final int MOST_BYTES = 300;
        private static final int MOST_STEPS = 30;
        private static final int MOST_ENTRIES = 60;
        private static final int MOST_DEPTH = 3;
        private final int[] words = new int[MOST_ENTRIES];
        /** Of a when: the WORD or the SIGN that it tests by. */
        private final int[] tests = new int[MOST_ENTRIES];
        private final int[] firsts = new int[MOST_ENTRIES];
        private final int[] seconds = new int[MOST_ENTRIES];
        /** Of a when, a loop: its end; of an end: what it ends. */
        private final int[] partners = new int[MOST_ENTRIES];
        private boolean there;
        private int entries;
        private int steps;

        private void makeNone() {
            there = false;
            entries = 0;
            steps = 0;
        }

        private void makeEmpty() {
            makeNone();
            there = true;
        }

        private void copyFrom(Year other) {
            there = other.there;
            entries = other.entries;
            steps = other.steps;
            System.arraycopy(other.words, 0, words, 0, entries);
            System.arraycopy(other.tests, 0, tests, 0, entries);
            System.arraycopy(other.firsts, 0, firsts, 0, entries);
            System.arraycopy(other.seconds, 0, seconds, 0, entries);
            System.arraycopy(other.partners, 0, partners, 0, entries);
        }

        private void add(int word) {
            if (entries < MOST_ENTRIES) {
                words[entries] = word;
                partners[entries] = entries;
                entries++;
            }
        }

        /** The latest when or loop that has no end yet, or NONE. */
        private int openEntry() {
            for (int entry = entries - 1; entry >= 0; entry--) {
                if (isBlock(words[entry]) && partners[entry] == entry) {
                    return entry;
                }
            }
            return NONE;
        }

        private int countOpen() {
            int open = 0;
            for (int entry = 0; entry < entries; entry++) {
                open += isBlock(words[entry]) && partners[entry] == entry ? 1 : 0;
            }
            return open;
        }

        private static boolean isBlock(int word) {
            return word == Tokens.WHEN || word == Tokens.LOOP;
        }
    }

    /** Reads the text of a TOWN. */
    private static final class TownReader {
        private static boolean takeTown(Tokens t, Town town) {
            return takeWide(t, town) && takeRows(t, town) && takeParts(t, town);
        }

        private static boolean takeWide(Tokens t, Town town) {
            if (!t.takeWord(Tokens.WIDE) || !t.takeNumber(1, Hill.MOST_WIDE)) {
                return false;
            }
            int wide = t.taken;
            boolean ring = t.isWord(Tokens.RING);
            if (ring) {
                t.advance();
            }
            town.makeEmpty(wide, ring);
            return t.takeSign(';');
        }

        private static boolean takeRows(Tokens t, Town town) {
            for (int row = 0; row <= Hill.MOST_ROWS && t.isWord(Tokens.ROW); row++) {
                if (row == Hill.MOST_ROWS) {
                    return t.fail(Tokens.ONE_TOO_MANY);
                }
                t.advance();
                if (!takeLetters(t, town) || !t.takeSign(';')) {
                    return false;
                }
            }
            return town.hill.rows > 0 || t.fail(Tokens.MISPLACED);
        }

        private static boolean takeLetters(Tokens t, Town town) {
            int wide = town.hill.wide;
            if (!t.isWordOf(wide)) {
                return t.fail(Tokens.MISPLACED);
            }
            int first = town.hill.rows * wide;
            for (int x = 0; x < wide; x++) {
                int letter = t.letterAt(x);
                if (letter != 'd' && letter != 'l' && letter != 'n' && letter != 'w' && letter != 'x') {
                    return t.fail(Tokens.MISPLACED);
                }
                town.addHouse(first + x, letter);
            }
            town.hill.addRow();
            t.advance();
            return true;
        }

        private static boolean takeParts(Tokens t, Town town) {
            for (int part = 0; part <= Town.MOST_RULES + Town.MOST_CITIZENS && !t.isEnd(); part++) {
                boolean taken;
                if (t.isWord(Tokens.RULE)) {
                    taken = takeRule(t, town);
                } else if (t.isWord(Tokens.CITIZEN)) {
                    taken = takeCitizen(t, town);
                } else {
                    taken = t.fail(Tokens.MISPLACED);
                }
                if (!taken) {
                    return false;
                }
            }
            return true;
        }

        private static boolean takeNewName(Tokens t, Town town) {
            if (!t.isName()) {
                return t.fail(Tokens.MISPLACED);
            }
            if (town.isNameTaken(t.name())) {
                return t.fail(Tokens.WRONG_NAME);
            }
            return true;
        }

        private static boolean takeRule(Tokens t, Town town) {
            int rule = town.rules;
            if (rule >= Town.MOST_RULES) {
                return t.fail(Tokens.ONE_TOO_MANY);
            }
            t.advance();
            if (!takeNewName(t, town)) {
                return false;
            }
            town.ruleNames[rule] = t.name();
            t.advance();
            int born = takeSet(t, Tokens.BORN);
            if (born < 0) {
                return false;
            }
            int stays = takeSet(t, Tokens.STAYS);
            if (stays < 0 || !t.takeSign(';')) {
                return false;
            }
            town.bornBy[rule] = born;
            town.staysBy[rule] = stays;
            town.rules++;
            return true;
        }

        /** The set behind BORN or STAYS, 0 if the WORD does not stand here, NONE at a FAULT. */
        private static int takeSet(Tokens t, int word) {
            if (!t.isWord(word)) {
                return 0;
            }
            t.advance();
            int set = 0;
            for (int number = 0; number == 0 || number < 10 && t.isNumber(); number++) {
                if (t.isNumber() && t.value() <= 4 && (set >> t.value() & 1) != 0) {
                    t.fail(Tokens.TOLD_ALREADY);
                    return NONE;
                }
                if (!t.takeNumber(0, 4)) {
                    return NONE;
                }
                set |= 1 << t.taken;
            }
            return set;
        }

        private static boolean takeCitizen(Tokens t, Town town) {
            int citizen = town.citizens;
            if (citizen >= Town.MOST_CITIZENS) {
                return t.fail(Tokens.ONE_TOO_MANY);
            }
            t.advance();
            if (!takeNewName(t, town)) {
                return false;
            }
            town.citizenNames[citizen] = t.name();
            t.advance();
            if (!t.takeWord(Tokens.LIKES) || !t.takeNumber(0, 30)) {
                return false;
            }
            int least = t.taken;
            if (!t.takeWord(Tokens.TO) || !t.takeNumber(least, 30)) {
                return false;
            }
            town.least[citizen] = least;
            town.most[citizen] = t.taken;
            town.citizens++;
            return t.takeSign(';');
        }
    }

    /** Reads the text of a YEAR for a TOWN. */
    private static final class YearReader {
        private static boolean takeYear(Tokens t, Town town, Year year) {
            for (int entry = 0; entry <= Year.MOST_ENTRIES && !t.isEnd(); entry++) {
                int at = year.entries;
                boolean taken = t.isWord(Tokens.END) ? takeEnd(t, year)
                    : takeStepWord(t, year) && takeRest(t, town, year, at);
                if (!taken || !t.takeSign(';')) {
                    return false;
                }
            }
            return year.countOpen() == 0 || t.fail(Tokens.MISPLACED);
        }

        private static boolean takeEnd(Tokens t, Year year) {
            int open = year.openEntry();
            int end = year.entries;
            if (open < 0 || end >= Year.MOST_ENTRIES) {
                return t.fail(Tokens.MISPLACED);
            }
            year.add(Tokens.END);
            year.partners[open] = end;
            year.partners[end] = open;
            t.advance();
            return true;
        }

        private static boolean takeStepWord(Tokens t, Year year) {
            int word = t.wordNumber();
            if (!isStep(word)) {
                return t.fail(Tokens.MISPLACED);
            }
            if (year.steps >= Year.MOST_STEPS || year.entries >= Year.MOST_ENTRIES) {
                return t.fail(Tokens.ONE_TOO_MANY);
            }
            if (Year.isBlock(word) && year.countOpen() >= Year.MOST_DEPTH) {
                return t.fail(Tokens.TOO_DEEP);
            }
            year.add(word);
            year.steps++;
            t.advance();
            return true;
        }

        private static boolean isStep(int word) {
            return word >= Tokens.NIGHT && word <= Tokens.WHEN || word == Tokens.LOOP || word == Tokens.STOP;
        }

        private static boolean takeRest(Tokens t, Town town, Year year, int entry) {
            switch (year.words[entry]) {
                case Tokens.NIGHT:
                case Tokens.LOOP: return takeFirst(t, year, entry, 1, 99);
                case Tokens.STORM: return takeFirst(t, year, entry, 0, 16);
                case Tokens.TURN: return takePlace(t, town, year, entry);
                case Tokens.MAYOR: return takeRuleName(t, town, year, entry);
                case Tokens.WHEN: return takeTest(t, town, year, entry);
                default: return true;
            }
        }

        private static boolean takeFirst(Tokens t, Year year, int entry, int least, int most) {
            if (!t.takeNumber(least, most)) {
                return false;
            }
            year.firsts[entry] = t.taken;
            return true;
        }

        private static boolean takePlace(Tokens t, Town town, Year year, int entry) {
            if (!t.takeNumber(0, town.hill.wide - 1)) {
                return false;
            }
            year.firsts[entry] = t.taken;
            if (!t.takeNumber(0, town.hill.rows - 1)) {
                return false;
            }
            year.seconds[entry] = t.taken;
            return true;
        }

        private static boolean takeRuleName(Tokens t, Town town, Year year, int entry) {
            if (!t.isName()) {
                return t.fail(Tokens.MISPLACED);
            }
            int rule = town.ruleNamed(t.name());
            if (rule < 0) {
                return t.fail(Tokens.WRONG_NAME);
            }
            year.firsts[entry] = rule;
            t.advance();
            return true;
        }

        private static boolean takeTest(Tokens t, Town town, Year year, int entry) {
            if (t.isWord(Tokens.SAME)) {
                year.tests[entry] = Tokens.SAME;
                t.advance();
                return true;
            }
            if (t.isWord(Tokens.LAMP)) {
                year.tests[entry] = Tokens.LAMP;
                t.advance();
                return takePlace(t, town, year, entry);
            }
            if (!t.takeWord(Tokens.LIT)) {
                return false;
            }
            if (!t.isSign('<') && !t.isSign('>') && !t.isSign('=')) {
                return t.fail(Tokens.MISPLACED);
            }
            year.tests[entry] = t.value();
            t.advance();
            return takeFirst(t, year, entry, 0, 30);
        }
    }

    /** Lives a YEAR once, and what came of it. */
    private static final class Living {
        private static final int MOST_STEPS = 300;
        /** Far above the ends that 300 STEPS can come to. */
        private static final int MOST_ENTRIES_COME_TO = 100000;
        private final int[] roundsLeft = new int[Year.MOST_ENTRIES];
        private int drawn;
        private int steps;
        private int missed;
        private int nights;
        private int putOut;
        private int births;
        private boolean left;

        private void liveBy(Town town, int seed) {
            Year year = town.year;
            drawn = seed;
            steps = 0;
            missed = 0;
            nights = 0;
            putOut = 0;
            births = 0;
            left = false;
            int entry = 0;
            for (int come = 0; come < MOST_ENTRIES_COME_TO && entry < year.entries; come++) {
                if (year.words[entry] == Tokens.END) {
                    entry = leaveBlock(year, entry);
                } else if (steps < MOST_STEPS) {
                    steps++;
                    entry = doStep(town, entry);
                } else {
                    left = true;
                    break;
                }
            }
        }

        private int leaveBlock(Year year, int end) {
            int block = year.partners[end];
            if (year.words[block] == Tokens.LOOP) {
                roundsLeft[block]--;
                if (roundsLeft[block] > 0) {
                    return block + 1;
                }
            }
            return end + 1;
        }

        /** Does a STEP: the entry that comes behind it. */
        private int doStep(Town town, int entry) {
            Year year = town.year;
            int first = year.firsts[entry];
            switch (year.words[entry]) {
                case Tokens.NIGHT:
                    town.passNights(first);
                    nights += first;
                    break;
                case Tokens.TURN:
                    turnLamp(town, first, year.seconds[entry]);
                    break;
                case Tokens.MAYOR:
                    town.mayor = first;
                    break;
                case Tokens.ELECT:
                    missed += town.holdElection() ? 0 : 1;
                    break;
                case Tokens.STORM:
                    blow(town, first);
                    break;
                case Tokens.BIRTH:
                    bear(town);
                    break;
                case Tokens.WHEN:
                    return isTrue(town, entry) ? entry + 1 : year.partners[entry] + 1;
                case Tokens.LOOP:
                    roundsLeft[entry] = first;
                    break;
                default:
                    return year.entries;
            }
            return entry + 1;
        }

        private boolean isTrue(Town town, int entry) {
            Year year = town.year;
            int first = year.firsts[entry];
            int lit = Integer.bitCount(town.picture);
            switch (year.tests[entry]) {
                case Tokens.SAME: return town.isStill();
                case Tokens.LAMP: return (town.picture >> town.hill.placeOf(first, year.seconds[entry]) & 1) != 0;
                case '<': return lit < first;
                case '>': return lit > first;
                default: return lit == first;
            }
        }

        private int draw(int by) {
            drawn = (drawn * 2879 + 11083) % 65536;
            return by > 0 ? drawn / 8 % by : 0;
        }

        private void turnLamp(Town town, int x, int y) {
            int bit = 1 << town.hill.placeOf(x, y);
            if ((town.hill.free & bit) == 0) {
                missed++;
            } else {
                town.picture ^= bit;
            }
        }

        private void blow(Town town, int strength) {
            int exposed = town.picture & town.hill.free;
            for (int place = 0; place < 30; place++) {
                int bit = 1 << place;
                if ((exposed & bit) != 0 && draw(16) < strength) {
                    town.picture &= ~bit;
                    putOut++;
                }
            }
        }

        private void bear(Town town) {
            int x = draw(town.hill.wide);
            int y = draw(town.hill.rows);
            int bit = 1 << town.hill.placeOf(x, y);
            if ((town.hill.free & ~town.picture & bit) == 0) {
                missed++;
            } else {
                town.picture |= bit;
                births++;
            }
        }
    }

    /** Counts the pictures whose every row becomes what it should, row behind row, by the latest two rows. */
    private static final class Ancestry {
        private static final int PAIRS = 1024;
        /** Level by level: how many ways there are to choose the rows so far that end with a pair of rows. */
        private final int[] ways = new int[(Hill.MOST_ROWS + 1) * PAIRS];
        /** Three rows alone, by which the middle one is looked at. */
        private final Hill strip = new Hill();
        /** By rows, and one behind the last: which lamps are not STUCK, which are always lit, which are to be lit. */
        private final int[] freeIn = new int[Hill.MOST_ROWS + 1];
        private final int[] alwaysIn = new int[Hill.MOST_ROWS + 1];
        private final int[] wantedIn = new int[Hill.MOST_ROWS + 1];
        private int rows;
        private int born;
        private int stays;
        private boolean toItself;

        private int countWays(Town asked, boolean itself) {
            toItself = itself;
            layRows(asked);
            born = asked.bornNow();
            stays = asked.staysNow();
            Arrays.fill(ways, 0);
            int choice = freeIn[0];
            for (int chosen = 0; chosen < 32; chosen++) {
                ways[choice | alwaysIn[0]] = 1;
                if (choice == 0) {
                    break;
                }
                choice = choice - 1 & freeIn[0];
            }
            for (int row = 0; row < rows; row++) {
                chooseBelow(row);
            }
            int sum = 0;
            int last = rows * PAIRS;
            for (int pair = last; pair < last + PAIRS; pair++) {
                sum += ways[pair];
            }
            return sum;
        }

        /** Behind the last row there is one that is dark: rowOf answers 0 for it. */
        private void layRows(Town asked) {
            Hill hill = asked.hill;
            rows = Math.min(hill.rows, Hill.MOST_ROWS);
            for (int row = 0; row <= rows; row++) {
                freeIn[row] = hill.rowOf(hill.free, row);
                alwaysIn[row] = hill.rowOf(hill.always, row);
                wantedIn[row] = hill.rowOf(asked.picture, row);
            }
            strip.start(hill.wide, hill.joined);
            for (int row = 0; row < 3; row++) {
                strip.addRow();
            }
            strip.free = strip.places;
        }

        private void chooseBelow(int row) {
            int level = row * PAIRS;
            for (int pair = 0; pair < PAIRS; pair++) {
                int many = ways[level + pair];
                if (many != 0) {
                    chooseBelowPair(row, pair >> 5, pair & 31, many);
                }
            }
        }

        /** A lamp below decides of one lamp here alone, so each column has what it must be below, or may. */
        private void chooseBelowPair(int row, int above, int here, int many) {
            int free = freeIn[row + 1];
            int always = alwaysIn[row + 1];
            int mustBeLit = wrongIn(row, above, here, 0);
            int mustBeDark = wrongIn(row, above, here, strip.rowMask());
            if (((mustBeLit | always) & mustBeDark) != 0 || (mustBeLit & ~(free | always)) != 0) {
                return;
            }
            int first = (row + 1) * PAIRS + here * 32 + (mustBeLit | always);
            int may = free & ~mustBeLit & ~mustBeDark;
            int choice = may;
            for (int chosen = 0; chosen < 32; chosen++) {
                ways[first + choice] += many;
                if (choice == 0) {
                    break;
                }
                choice = choice - 1 & may;
            }
        }

        /** Which lamps of a row between two others become in a night what they should not. */
        private int wrongIn(int row, int above, int here, int below) {
            int lit = above | here << strip.wide | below << 2 * strip.wide;
            int then = strip.rowOf(strip.step(lit, born, stays), 1) & freeIn[row] | alwaysIn[row];
            return then ^ (toItself ? here : wantedIn[row]);
        }

        /** Of what was counted latest (there is one) the least: its last rows count most, so they are chosen first. */
        private int leastFound() {
            int below = 0;
            int here = leastAbove(rows, 0, -1);
            int found = 0;
            for (int row = rows - 1; row >= 0; row--) {
                found |= here << row * strip.wide;
                int above = row > 0 ? leastAbove(row, here, below) : 0;
                below = here;
                here = above;
            }
            return found;
        }

        /** The least row above a row that some way leads through; below is -1 for the row beyond the last. */
        private int leastAbove(int row, int here, int below) {
            for (int above = 0; above < 32; above++) {
                boolean some = ways[row * PAIRS + above * 32 + here] != 0;
                if (some && (below < 0 || wrongIn(row, above, here, below) == 0)) {
                    return above;
                }
            }
            return 0;
        }
    }

    /** Lamps turned now, and what becomes of it. */
    private static final class Turning {
        private final int[] lamps = new int[30];
        private int lampCount;
        private int turned;
        private int worstPlace;
        private int worstSpoilt;
        private int unlikeThen;

        private void listLamps(int set) {
            lampCount = 0;
            for (int place = 0; place < 30; place++) {
                if ((set & 1 << place) != 0) {
                    lamps[lampCount] = 1 << place;
                    lampCount++;
                }
            }
        }

        private boolean findSignal(Town town, int target, int nights) {
            listLamps(town.hill.free & near(town.hill, target, nights));
            return trySet(town, 0, target, nights) || tryOnes(town, target, nights)
                || tryTwos(town, target, nights) || tryThrees(town, target, nights);
        }

        /** The PLACES so near that they count within so many nights: no fewest set has others. */
        private static int near(Hill hill, int target, int nights) {
            int near = target;
            for (int night = 0; night < nights; night++) {
                near |= hill.around(near);
            }
            return near;
        }

        private boolean trySet(Town town, int set, int target, int nights) {
            if ((town.after(town.picture ^ set, nights) & target) == 0) {
                return false;
            }
            turned = set;
            return true;
        }

        private boolean tryOnes(Town town, int target, int nights) {
            for (int a = 0; a < lampCount; a++) {
                if (trySet(town, lamps[a], target, nights)) {
                    return true;
                }
            }
            return false;
        }

        /** The highest lamp runs outermost, here and below: so the sets come by their numbers. */
        private boolean tryTwos(Town town, int target, int nights) {
            for (int b = 1; b < lampCount; b++) {
                for (int a = 0; a < b; a++) {
                    if (trySet(town, lamps[b] | lamps[a], target, nights)) {
                        return true;
                    }
                }
            }
            return false;
        }

        private boolean tryThrees(Town town, int target, int nights) {
            for (int c = 2; c < lampCount; c++) {
                for (int b = 1; b < c; b++) {
                    for (int a = 0; a < b; a++) {
                        if (trySet(town, lamps[c] | lamps[b] | lamps[a], target, nights)) {
                            return true;
                        }
                    }
                }
            }
            return false;
        }

        private static int countSpoilt(Town town, int bit, int nights) {
            int asIs = town.after(town.picture, nights);
            return Integer.bitCount(asIs ^ town.after(town.picture ^ bit, nights));
        }

        private void findWorst(Town town, int nights) {
            worstSpoilt = -1;
            for (int place = 0; place < 30; place++) {
                if ((town.hill.free & 1 << place) != 0) {
                    int spoilt = countSpoilt(town, 1 << place, nights);
                    if (spoilt > worstSpoilt) {
                        worstSpoilt = spoilt;
                        worstPlace = place;
                    }
                }
            }
        }

        private void findMend(Town town, int wanted) {
            listLamps(town.hill.free);
            unlikeThen = 100;
            tryMend(town, 0, wanted);
            for (int a = 0; a < lampCount; a++) {
                tryMend(town, lamps[a], wanted);
            }
            for (int b = 1; b < lampCount; b++) {
                for (int a = 0; a < b; a++) {
                    tryMend(town, lamps[b] | lamps[a], wanted);
                }
            }
        }

        private void tryMend(Town town, int set, int wanted) {
            int then = town.nextOf(town.picture ^ set);
            int unlike = town.hill.countUnlike(then, wanted);
            if (unlike < unlikeThen) {
                unlikeThen = unlike;
                turned = set;
            }
        }
    }

    /** Where the nights lead: rounds, far ahead, walks. */
    private static final class Paths {
        private static final int MOST_AGAIN = 2000;
        /** Far above the nights by which Brent's search finds every round that comes again in 2,000. */
        private static final int MOST_SEARCHED = 8192;
        private static final int MOST_WALK = 60;
        private int lead;
        private int round;
        private int walkNight;
        private int walkRight;
        private int walkDown;
        private int shape;
        private int shapeX;
        private int shapeY;

        private boolean findRound(Town town) {
            if (!findRoundLength(town)) {
                return false;
            }
            int behind = town.picture;
            int front = town.after(behind, round);
            lead = 0;
            while (behind != front && lead + round < MOST_AGAIN) {
                behind = town.nextOf(behind);
                front = town.nextOf(front);
                lead++;
            }
            return behind == front && lead + round <= MOST_AGAIN;
        }

        private boolean findRoundLength(Town town) {
            int anchor = town.picture;
            int lit = town.nextOf(anchor);
            int span = 1;
            round = 1;
            for (int night = 0; night < MOST_SEARCHED && lit != anchor; night++) {
                if (round == span) {
                    anchor = lit;
                    span *= 2;
                    round = 0;
                }
                lit = town.nextOf(lit);
                round++;
            }
            return lit == anchor;
        }

        /** Behind findRound. */
        private int farAhead(Town town, int nights) {
            int near = nights;
            if (nights > lead && round > 0) {
                near = lead + (nights - lead) % round;
            }
            return town.after(town.picture, near);
        }

        private boolean findWalk(Town town) {
            if (town.picture == 0) {
                return false;
            }
            moveToCorner(town.hill, town.picture);
            int begun = shape;
            int fromX = shapeX;
            int fromY = shapeY;
            int lit = town.picture;
            for (int night = 1; night <= MOST_WALK; night++) {
                lit = town.nextOf(lit);
                moveToCorner(town.hill, lit);
                if (shape == begun) {
                    walkNight = night;
                    walkRight = shapeX - fromX;
                    walkDown = shapeY - fromY;
                    return true;
                }
            }
            return false;
        }

        /** The picture moved up and left as far as it goes: moved ones of each other have one shape. */
        private void moveToCorner(Hill hill, int picture) {
            shape = picture;
            shapeX = 0;
            shapeY = 0;
            while (shapeY < hill.rows && (shape & hill.rowMask()) == 0) {
                shape >>= hill.wide;
                shapeY++;
            }
            while (shapeX < hill.wide && (shape & hill.firstColumn) == 0) {
                shape >>= 1;
                shapeX++;
            }
        }
    }
}
