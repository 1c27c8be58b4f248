import java.util.ArrayList;
import java.util.List;
import java.util.function.Supplier;

/** What the tests of boundary cases share: objects to start from, and that a call leaves all as it was. */
final class Edges {
    static final int MOST = Integer.MAX_VALUE;
    static final int LEAST = Integer.MIN_VALUE;
    /** The FAULT that is the latest one of each object to start from. */
    static final int FAULT_AHEAD = 3;

    /** A call, whose answer may be an int's or a long's. */
    interface Call {
        long on(ThunderOwned x);
    }

    private Edges() {
    }

    /** No PARISH; SHEET 1 has four shorts, the other ones nothing. */
    static ThunderOwned bare() {
        ThunderOwned x = new ThunderOwned();
        Checks.row(x, 1, 1, 14, 15, -1, 3);
        Checks.due("a fault ahead", x.put(1, 4, 0), -13);
        return x;
    }

    /**
     * Four HOUSES and three STONES in the midst of it all: HOUSE 1 has OWNED, HOUSE 3 lost a HAT, STONE 1 is
     * LAID, it HANGS over HOUSE 2, two READINGS. SHEET 0 has 22 bytes (the TEXT), SHEET 1 four shorts, SHEET 2
     * five ints, SHEET 3 nothing.
     */
    static ThunderOwned lived() {
        ThunderOwned x = Checks.parish("t3;p35;b42;d59;p00!726");
        Checks.row(x, 1, 1, 14, 15, -1, 3);
        Checks.row(x, 2, 2, 4, 1, 2, 70000, -70000);
        Checks.due("two nights", x.night(2), 33);
        x.own(1);
        x.lay(1);
        x.reading(0, x.many(6));
        x.reading(2, x.behind(2, 0));
        x.tell(2);
        Checks.due("a fault ahead", x.put(1, 4, 0), -13);
        return x;
    }

    /** As many READINGS as there may be. */
    static ThunderOwned full() {
        ThunderOwned x = lived();
        for (int r = 2; r < 8; r++) {
            Checks.due("reading " + r, x.reading(r, x.behind(r, 0)), r);
        }
        return x;
    }

    /** A call that names no FAULTS: its answer, and all stays as it was, fault() too. */
    static void changesNothing(String name, Supplier<ThunderOwned> start, Call call, long answer) {
        changesOnlyFault(name, start, call, answer, FAULT_AHEAD);
    }

    /** A call that names FAULTS: its answer and what fault() is then; all else stays as it was. */
    static void changesOnlyFault(String name, Supplier<ThunderOwned> start, Call call, long answer, int fault) {
        ThunderOwned x = start.get();
        Checks.due(name, call.on(x), answer);
        Checks.due(name + ", fault()", x.fault(), fault);
        List<String> due = seen(start.get());
        List<String> got = seen(x);
        Checks.due(name + ", as many things to see", got.size(), due.size());
        for (int i = 0; i < Math.min(got.size(), due.size()); i++) {
            String what = name + " changed " + due.get(i) + " to " + got.get(i);
            Checks.due(what, got.get(i).equals(due.get(i)) ? 1 : 0, 1);
        }
    }

    /** A call that names no FAULTS, and is answered alike where there is a PARISH and where there is none. */
    static void refused(String name, Call call, long answer) {
        changesNothing(name + ", no parish", Edges::bare, call, answer);
        changesNothing(name, Edges::lived, call, answer);
    }

    /** A call that names FAULTS, and is answered alike where there is a PARISH and where there is none. */
    static void stopped(String name, Call call, long answer, int fault) {
        changesOnlyFault(name + ", no parish", Edges::bare, call, answer, fault);
        changesOnlyFault(name, Edges::lived, call, answer, fault);
    }

    /** All that can be seen of an object but fault(), which looking at cells changes. READINGS are used up. */
    private static List<String> seen(ThunderOwned x) {
        List<String> all = new ArrayList<>();
        all.add("trace() " + x.trace());
        for (int what = 0; what < 7; what++) {
            all.add("many(" + what + ") " + x.many(what));
        }
        for (int h = 0; h < 5; h++) {
            for (int what = 0; what < 7; what++) {
                all.add("ofHouse(" + h + ", " + what + ") " + x.ofHouse(h, what));
            }
        }
        for (int s = 0; s < 4; s++) {
            all.add("ofStone(" + s + ", 0) " + x.ofStone(s, 0));
            all.add("ofStone(" + s + ", 1) " + x.ofStone(s, 1));
        }
        for (int t = 1; t <= 4; t++) {
            all.add("behind(" + t + ", 1) " + x.behind(t, 1));
        }
        for (int k = 0; k < 4; k++) {
            sheetSeen(x, k, all);
        }
        readingsSeen(x, all);
        return all;
    }

    private static void sheetSeen(ThunderOwned x, int k, List<String> all) {
        for (int lane = 0; lane < 3; lane++) {
            int fault = 0;
            for (int i = 0; i <= 60 && fault == 0; i++) {
                long cell = x.cell(k, i, lane);
                fault = x.fault();
                all.add("cell(" + k + ", " + i + ", " + lane + ") " + cell + " fault " + fault);
            }
        }
    }

    private static void readingsSeen(ThunderOwned x, List<String> all) {
        for (int left = x.many(4); left > 0; left = x.back(1)) {
            all.add("by " + left + " readings steps() " + x.steps());
            for (int h = 0; h < 5; h++) {
                all.add("by " + left + " readings kinds(" + h + ") " + x.kinds(h));
                all.add("by " + left + " readings wrongs(" + h + ") " + x.wrongs(h));
            }
        }
    }
}
