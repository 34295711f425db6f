/** Calls the calls of WindowHill by their names; a boolean counts 1 or 0. */
final class Caller {
    /** Every call with its parameters: i an int, l a long. */
    static final String[] CALLS = {
        "status", "top", "bottom", "tray iii", "write iil", "read ii", "pour iiiii", "feed iiiii", "town i", "year i",
        "fault i", "told i", "picture", "lamp iii", "rule ii", "citizen ii", "turn ii", "paint l", "paintRows i",
        "copyRows i", "mayor i", "bend iii", "night i", "ahead i", "again i", "far i", "walks i", "still", "next i",
        "oil i", "brightest i", "ancestors", "ancestor", "stills", "firstStill", "pictures", "signal iiii",
        "spoils iii", "worst ii", "mend li", "unlike l", "seen ii", "rulesLeft", "fits", "forget", "shows", "vote i",
        "votes i", "elect", "reads ii", "mirror", "heaps i", "heap ii", "company", "live i", "lived i", "mean ii",
        "mark", "back"};

    private Caller() { }

    private static long of(boolean b) {
        return b ? 1 : 0;
    }

    static long call(WindowHill h, String name, long... l) {
        int[] i = new int[5];
        for (int k = 0; k < l.length && k < 5; k++) {
            i[k] = (int) l[k];
        }
        switch (name) {
            case "status": return h.status();
            case "top": return h.top();
            case "bottom": return h.bottom();
            case "tray": return of(h.tray(i[0], i[1], i[2]));
            case "write": return of(h.write(i[0], i[1], l[2]));
            case "read": return h.read(i[0], i[1]);
            case "pour": return of(h.pour(i[0], i[1], i[2], i[3], i[4]));
            case "feed": return h.feed(i[0], i[1], i[2], i[3], i[4]);
            case "town": return h.town(i[0]);
            case "year": return h.year(i[0]);
            case "fault": return h.fault(i[0]);
            case "told": return h.told(i[0]);
            case "picture": return h.picture();
            case "lamp": return h.lamp(i[0], i[1], i[2]);
            case "rule": return h.rule(i[0], i[1]);
            case "citizen": return h.citizen(i[0], i[1]);
            case "turn": return h.turn(i[0], i[1]);
            case "paint": return h.paint(l[0]);
            case "paintRows": return h.paintRows(i[0]);
            case "copyRows": return h.copyRows(i[0]);
            case "mayor": return of(h.mayor(i[0]));
            case "bend": return of(h.bend(i[0], i[1], i[2]));
            case "night": return h.night(i[0]);
            case "ahead": return h.ahead(i[0]);
            case "again": return h.again(i[0]);
            case "far": return h.far(i[0]);
            case "walks": return h.walks(i[0]);
            case "still": return h.still();
            case "next": return h.next(i[0]);
            case "oil": return h.oil(i[0]);
            default: return callMore(h, name, l, i);
        }
    }

    private static long callMore(WindowHill h, String name, long[] l, int[] i) {
        switch (name) {
            case "brightest": return h.brightest(i[0]);
            case "ancestors": return h.ancestors();
            case "ancestor": return h.ancestor();
            case "stills": return h.stills();
            case "firstStill": return h.firstStill();
            case "pictures": return h.pictures();
            case "signal": return h.signal(i[0], i[1], i[2], i[3]);
            case "spoils": return h.spoils(i[0], i[1], i[2]);
            case "worst": return h.worst(i[0], i[1]);
            case "mend": return h.mend(l[0], i[1]);
            case "unlike": return h.unlike(l[0]);
            case "seen": return h.seen(i[0], i[1]);
            case "rulesLeft": return h.rulesLeft();
            case "fits": return h.fits();
            case "forget": return h.forget();
            case "shows": return h.shows();
            case "vote": return h.vote(i[0]);
            case "votes": return h.votes(i[0]);
            case "elect": return h.elect();
            case "reads": return h.reads(i[0], i[1]);
            case "mirror": return h.mirror();
            case "heaps": return h.heaps(i[0]);
            case "heap": return h.heap(i[0], i[1]);
            case "company": return of(h.company());
            case "live": return h.live(i[0]);
            case "lived": return h.lived(i[0]);
            case "mean": return of(h.mean(i[0], i[1]));
            case "mark": return h.mark();
            case "back": return h.back();
            default: throw new IllegalArgumentException(name);
        }
    }
}
