import java.util.ArrayList;
import java.util.List;
import java.util.regex.Matcher;
import java.util.regex.Pattern;

/**
 * The document a second time, written another way than the class: states that never change, texts by a
 * regular expression, rows that are real arrays whose faults the machine finds.
 */
final class Model {
    record House(int kind, int wrong, int sleep, boolean owned, int hats) {
        int weight() {
            return List.of(wrong, wrong + 1, 2 * wrong).get(kind);
        }

        boolean rankles() {
            return !owned && weight() > 0;
        }

        House slept(int v) {
            return new House(kind, wrong, v, owned, hats);
        }

        House owns() {
            return rankles() ? new House(kind, wrong, sleep, true, hats) : new House(kind, wrong, sleep, owned, hats + 1);
        }
    }

    record Stone(int hides, boolean laid) {
    }

    record State(int step, int hangs, List<House> houses, List<Stone> stones) {
        State with(int h, House house) {
            List<House> next = new ArrayList<>(houses);
            next.set(h, house);
            return new State(step, hangs, next, stones);
        }

        State laid(int s) {
            List<Stone> next = new ArrayList<>(stones);
            next.set(s, new Stone(stones.get(s).hides(), true));
            return new State(step, hangs, houses, next);
        }

        int hats() {
            return houses.stream().mapToInt(House::hats).sum();
        }

        int rankling() {
            int set = 0;
            for (int h = 0; h < houses.size(); h++) {
                set += houses.get(h).rankles() ? 1 << h : 0;
            }
            return set;
        }

        int weight(int set) {
            int sum = 0;
            for (int h = 0; h < houses.size(); h++) {
                sum += (set & 1 << h) != 0 ? houses.get(h).weight() : 0;
            }
            return sum;
        }

        int voice() {
            return weight(rankling()) + stones.stream().filter(s -> !s.laid()).mapToInt(Stone::hides).sum();
        }

        State own(int set) {
            State s = this;
            for (int h = 0; h < houses.size(); h++) {
                s = (set & 1 << h) != 0 ? s.with(h, s.houses.get(h).owns()) : s;
            }
            return s;
        }

        State night() {
            if (voice() == 0) {
                return this;
            }
            State s = this;
            for (int h = 0; h < houses.size(); h++) {
                s = s.with(h, houses.get(h).slept(Math.max(0, houses.get(h).sleep() - 1)));
            }
            if (s.houses.get(hangs).sleep() == 0) {
                s = s.own(1 << hangs);
            }
            if (s.rankling() == 0) {
                for (int hides = 9, found = 0; hides > 0 && found == 0; hides--) {
                    found = s.stones.indexOf(new Stone(hides, false)) + 1;
                    s = found > 0 ? s.laid(found - 1) : s;
                }
            }
            return new State(step, (hangs + step) % houses.size(), s.houses, s.stones);
        }

        State nights(int n) {
            return n == 0 ? this : night().nights(n - 1);
        }

        int quiet() {
            for (int n = 0; n <= 60; n++) {
                if (nights(n).voice() == 0) {
                    return n;
                }
            }
            return -9;
        }
    }

    private static final Pattern TEXT = Pattern.compile("t[1-4](;[pbd][0-9][0-9]){1,5}(![1-9]{1,4})?");
    private static final State NO_PARISH = new State(0, 0, List.of(), List.of());
    private static final long LOST = Long.MIN_VALUE;

    private State now = NO_PARISH;
    private final Object[] sheets = new Object[4];
    private final List<int[]> readings = new ArrayList<>();
    private int nights = 0;
    private int trace = 0;
    private int fault = 0;

    private static boolean out(int v, int least, int most) {
        return v < least || v > most;
    }

    private boolean noHouse(int h) {
        return out(h, 0, now.houses().size() - 1);
    }

    private boolean noParish() {
        return now == NO_PARISH;
    }

    /** Reads or writes a cell of a row that is cast to a lane, as the machine would. */
    private static int touch(Object row, int lane, int i) {
        return switch (lane) {
            case 0 -> ((byte[]) row)[i];
            case 1 -> ((short[]) row)[i];
            default -> ((int[]) row)[i];
        };
    }

    private static int length(Object row) {
        return row instanceof byte[] b ? b.length : row instanceof short[] s ? s.length : ((int[]) row).length;
    }

    private static int laneOf(Object row) {
        return row instanceof byte[] ? 0 : row instanceof short[] ? 1 : 2;
    }

    private int faulted(RuntimeException e) {
        fault = e instanceof NullPointerException ? 1 : e instanceof ClassCastException ? 2
            : e instanceof IndexOutOfBoundsException ? 3 : e instanceof NegativeArraySizeException ? 4 : 99;
        return -10 - fault;
    }

    private int[] cells(int k, int lane, int i, int n) {
        Object row = sheets[k];
        if (row != null) {
            switch (lane) {
                case 0 -> ((byte[]) row).hashCode();
                case 1 -> ((short[]) row).hashCode();
                default -> ((int[]) row).hashCode();
            }
        }
        row.hashCode();
        int[] got = new int[n];
        if (i < 0 || i > length(row) || (long) i + n > length(row)) {
            throw new IndexOutOfBoundsException();
        }
        for (int c = 0; c < n; c++) {
            got[c] = touch(row, lane, i + c);
        }
        return got;
    }

    int parish(int sheet, int lane, int i, int n) {
        fault = 0;
        if (out(sheet, 0, 3)) {
            return -1;
        }
        if (out(lane, 0, 2)) {
            return -2;
        }
        int[] codes;
        try {
            // no row is that long, and the machine should not make one
            codes = cells(sheet, lane, i, Math.min(n, 1000));
        } catch (RuntimeException e) {
            return faulted(e);
        }
        StringBuilder b = new StringBuilder();
        for (int code : codes) {
            b.append(out(code, 0, 126) ? '~' : (char) code);
        }
        String text = b.toString();
        for (int length = 1; length <= text.length(); length++) {
            Matcher m = TEXT.matcher(text.substring(0, length));
            if (!m.matches() && !m.hitEnd()) {
                return -100 - (length - 1);
            }
        }
        if (!TEXT.matcher(text).matches()) {
            return -100 - text.length();
        }
        take(text);
        return now.houses().size();
    }

    private void take(String text) {
        String[] parts = text.split("!");
        String[] told = parts[0].split(";");
        List<House> houses = new ArrayList<>();
        for (int h = 1; h < told.length; h++) {
            houses.add(new House("pbd".indexOf(told[h].charAt(0)), told[h].charAt(1) - '0', told[h].charAt(2) - '0', false, 0));
        }
        List<Stone> stones = new ArrayList<>();
        if (parts.length > 1) {
            parts[1].chars().forEach(c -> stones.add(new Stone(c - '0', false)));
        }
        now = new State(told[0].charAt(1) - '0', 0, houses, stones);
        nights = 0;
        readings.clear();
    }

    int ofHouse(int h, int what) {
        if (noHouse(h)) {
            return -1;
        }
        House o = now.houses().get(h);
        int[] all = {o.kind(), o.wrong(), o.sleep(), o.weight(), o.owned() ? 1 : 0, o.rankles() ? 1 : 0, o.hats()};
        return out(what, 0, 6) ? -2 : all[what];
    }

    int ofStone(int s, int what) {
        if (out(s, 0, now.stones().size() - 1)) {
            return -1;
        }
        return out(what, 0, 1) ? -2 : what == 0 ? now.stones().get(s).hides() : now.stones().get(s).laid() ? 1 : 0;
    }

    int sleep(int h, int v) {
        if (noHouse(h)) {
            return -1;
        }
        if (out(v, 0, 9)) {
            return -2;
        }
        int was = now.houses().get(h).sleep();
        now = now.with(h, now.houses().get(h).slept(v));
        return was;
    }

    int own(int h) {
        if (noHouse(h)) {
            return -1;
        }
        int rankled = now.rankling() >> h & 1;
        now = now.own(1 << h);
        return rankled;
    }

    int lay(int s) {
        if (out(s, 0, now.stones().size() - 1)) {
            return -1;
        }
        if (now.stones().get(s).laid()) {
            return -3;
        }
        now = now.laid(s);
        return now.voice();
    }

    int night(int n) {
        if (out(n, 1, 60)) {
            return -2;
        }
        if (noParish()) {
            return -3;
        }
        now = now.nights(n);
        nights += n;
        return now.voice();
    }

    int day(int sheet, int lane, int i, int n, int what) {
        fault = 0;
        if (out(sheet, 0, 3)) {
            return -1;
        }
        if (out(lane, 0, 2) || out(n, 0, 20) || out(what, 0, 4) && out(what, 10, 14)) {
            return -2;
        }
        int[] acts;
        try {
            acts = cells(sheet, lane, i, n);
        } catch (RuntimeException e) {
            return faulted(e);
        }
        if (noParish()) {
            return -3;
        }
        for (int act : acts) {
            if (out(act, 0, 14)) {
                return -2;
            }
        }
        State s = now;
        for (int place = 0; place < n; place++) {
            State next = after(s, acts[place]);
            if (next == null) {
                return what == 1 ? place : -100 - place;
            }
            s = next;
        }
        if (what >= 10) {
            return noHouse(what - 10) ? -9 : s.houses().get(what - 10).sleep();
        }
        return new int[] {s.voice(), -9, s.hats() - now.hats(), s.rankling(), s.hangs()}[what];
    }

    private static State after(State s, int act) {
        if (act == 14) {
            return s.night();
        }
        if (act >= 10) {
            int stone = act - 10;
            return stone >= s.stones().size() || s.stones().get(stone).laid() ? null : s.laid(stone);
        }
        int h = act % 5;
        if (h >= s.houses().size()) {
            return null;
        }
        return act >= 5 ? s.with(h, s.houses().get(h).slept(9)) : s.own(1 << h);
    }

    int behind(int t, int what) {
        if (out(t, 0, 60) || out(what, 0, 2)) {
            return -2;
        }
        if (noParish()) {
            return -3;
        }
        State s = now.nights(t);
        return new int[] {s.voice(), s.hangs(), s.hats() - now.hats()}[what];
    }

    int quiet() {
        return noParish() ? -3 : now.quiet();
    }

    int fewest(int t, int what) {
        if (out(t, 0, 60) || out(what, 0, 1)) {
            return -2;
        }
        if (noParish()) {
            return -3;
        }
        for (int count = 0; count <= 5; count++) {
            for (int set = 0; set < 32; set++) {
                if (Integer.bitCount(set) == count && (set & now.rankling()) == set && now.own(set).nights(t).voice() == 0) {
                    return what == 0 ? count : set;
                }
            }
        }
        return -9;
    }

    int claps(int v, int what) {
        if (out(v, 0, 90) || out(what, 0, 1)) {
            return -2;
        }
        if (noParish()) {
            return -3;
        }
        List<Integer> sets = new ArrayList<>();
        for (int set = 0; set < 32; set++) {
            if ((set & now.rankling()) == set && now.weight(set) == v) {
                sets.add(set);
            }
        }
        return what == 0 ? sets.size() : sets.isEmpty() ? -9 : sets.get(0);
    }

    int rests(int a, int b) {
        if (noHouse(a) || noHouse(b) || a == b) {
            return -1;
        }
        int set = 0;
        for (int ownsA = 0; ownsA < 2; ownsA++) {
            for (int ownsB = 0; ownsB < 2; ownsB++) {
                boolean contentA = pain(a, ownsA, b, ownsB) <= pain(a, 1 - ownsA, b, ownsB);
                boolean contentB = pain(b, ownsB, a, ownsA) <= pain(b, 1 - ownsB, a, ownsA);
                set |= contentA && contentB ? 1 << (ownsA + 2 * ownsB) : 0;
            }
        }
        return set;
    }

    private int pain(int h, int owns, int other, int otherOwns) {
        int quiet = now.own(owns << h | otherOwns << other).quiet();
        int hurt = now.houses().get(h).rankles() ? now.houses().get(h).weight() : 6;
        return (quiet == -9 || quiet > 20 ? 20 : quiet) + owns * hurt;
    }

    int reading(int t, int v) {
        if (noParish()) {
            return -3;
        }
        if (out(t, 0, 60) || out(v, 0, 200)) {
            return -2;
        }
        if (readings.size() == 8) {
            return -4;
        }
        readings.add(new int[] {t, v});
        return readings.size() - 1;
    }

    int back(int n) {
        if (out(n, 0, readings.size())) {
            return -2;
        }
        readings.subList(readings.size() - n, readings.size()).clear();
        return readings.size();
    }

    private int bitIfRead(State s, int number) {
        return readings.stream().allMatch(r -> s.nights(r[0]).voice() == r[1]) ? 1 << number : 0;
    }

    int kinds(int h) {
        if (noHouse(h)) {
            return -1;
        }
        int set = 0;
        House o = now.houses().get(h);
        for (int kind = 0; kind < 3; kind++) {
            set |= bitIfRead(now.with(h, new House(kind, o.wrong(), o.sleep(), o.owned(), o.hats())), kind);
        }
        return set;
    }

    int wrongs(int h) {
        if (noHouse(h)) {
            return -1;
        }
        int set = 0;
        House o = now.houses().get(h);
        for (int wrong = 0; wrong < 10; wrong++) {
            set |= bitIfRead(now.with(h, new House(o.kind(), wrong, o.sleep(), o.owned(), o.hats())), wrong);
        }
        return set;
    }

    int steps() {
        if (noParish()) {
            return -3;
        }
        int set = 0;
        for (int step = 1; step < 5; step++) {
            set |= bitIfRead(new State(step, now.hangs(), now.houses(), now.stones()), step);
        }
        return set;
    }

    long odds(int v, int which) {
        if (out(v, 0, 90) || out(which, 0, 1) || noParish()) {
            return LOST;
        }
        long upper = 0;
        long lower = 0;
        for (int set = 0; set < 32; set++) {
            boolean rolls = (set & now.rankling()) == set;
            lower += rolls ? 1 : 0;
            upper += rolls && now.weight(set) >= v ? 1 : 0;
        }
        for (long d = lower; d > 1; d--) {
            if (upper % d == 0 && lower % d == 0) {
                upper /= d;
                lower /= d;
            }
        }
        return which == 0 ? upper : lower;
    }

    int sheet(int k, int lane, int n) {
        fault = 0;
        if (out(k, 0, 3)) {
            return -1;
        }
        if (out(lane, 0, 2) || n > 60) {
            return -2;
        }
        try {
            sheets[k] = lane == 0 ? new byte[n] : lane == 1 ? new short[n] : new int[n];
        } catch (RuntimeException e) {
            return faulted(e);
        }
        return 1;
    }

    int lose(int k) {
        if (out(k, 0, 3)) {
            return -1;
        }
        int had = sheets[k] == null ? 0 : 1;
        sheets[k] = null;
        return had;
    }

    int put(int k, int i, int v) {
        fault = 0;
        if (out(k, 0, 3)) {
            return -1;
        }
        try {
            if (sheets[k] instanceof byte[] b) {
                b[i] = (byte) v;
            } else if (sheets[k] instanceof short[] s) {
                s[i] = (short) v;
            } else {
                ((int[]) sheets[k])[i] = v;
            }
        } catch (RuntimeException e) {
            return faulted(e);
        }
        return 1;
    }

    long cell(int k, int i, int lane) {
        fault = 0;
        if (out(k, 0, 3) || out(lane, 0, 2)) {
            return LOST;
        }
        try {
            return touch(sheets[k], lane, i);
        } catch (RuntimeException e) {
            faulted(e);
            return LOST;
        }
    }

    int copy(int k, int i, int other, int j, int n) {
        fault = 0;
        if (out(k, 0, 3) || out(other, 0, 3)) {
            return -1;
        }
        try {
            if (sheets[k] != null && sheets[other] != null && laneOf(sheets[k]) != laneOf(sheets[other])) {
                throw new ClassCastException();
            }
            System.arraycopy(sheets[k], i, sheets[other], j, n);
        } catch (RuntimeException e) {
            return faulted(e);
        }
        return n;
    }

    private void leave(String bodies) {
        bodies.chars().forEach(body -> trace = trace * 31 + body - '0');
    }

    int tell(int h) {
        if (noHouse(h)) {
            return -1;
        }
        House o = now.houses().get(h);
        leave(List.of("1", "21", "3211").get(o.kind()));
        return List.of(o.wrong(), o.wrong() + 100, 2 * o.wrong() + 100).get(o.kind());
    }

    int knock(int h) {
        if (noHouse(h)) {
            return -1;
        }
        House o = now.houses().get(h);
        leave(o.kind() == 2 ? "5" : "4");
        return o.kind() == 2 ? 70 : o.sleep();
    }

    int as(int h, int kind) {
        fault = 0;
        if (noHouse(h)) {
            return -1;
        }
        if (out(kind, 0, 2)) {
            return -2;
        }
        boolean is = List.of("0", "01", "012").get(now.houses().get(h).kind()).indexOf('0' + kind) >= 0;
        return is ? 1 : faulted(new ClassCastException());
    }

    int trace() {
        return trace;
    }

    int fault() {
        return fault;
    }

    int many(int what) {
        int[] all = {now.houses().size(), now.stones().size(), nights, now.hats(), readings.size(), now.hangs(), now.voice()};
        return out(what, 0, 6) ? -2 : all[what];
    }
}
