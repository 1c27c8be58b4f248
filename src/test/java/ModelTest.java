import java.util.Random;

/** Long runs of drawn calls, wild arguments among them, on the class and on the model side by side. */
public final class ModelTest {
    private static final int RUNS = 1500;
    private static final int CALLS = 500;
    private static final int[] WILD = {-1, -2, 5, 9, 10, 14, 15, 20, 21, 60, 61, 62, 90, 91, 200, 201, 255, 256,
        65536, Integer.MAX_VALUE, Integer.MIN_VALUE, Integer.MAX_VALUE - 1, Integer.MIN_VALUE + 1};

    private final Random random;
    private final ThunderOwned x = new ThunderOwned();
    private final Model m = new Model();
    private final int run;

    private ModelTest(int run) {
        this.run = run;
        this.random = new Random(run);
    }

    public static void main(String[] args) {
        for (int run = 0; run < RUNS; run++) {
            ModelTest test = new ModelTest(run);
            int calls = 0;
            while (calls < CALLS) {
                calls += test.step();
            }
        }
        Checks.end();
    }

    /** A number below a bound, or now and then a wild one. */
    private int some(int bound) {
        return random.nextInt(12) == 0 ? WILD[random.nextInt(WILD.length)] : random.nextInt(bound);
    }

    private void same(String call, long got, long want) {
        Checks.due("run " + run + ": " + call, got, want);
        Checks.due("run " + run + ": fault behind " + call, x.fault(), m.fault());
        Checks.due("run " + run + ": trace behind " + call, x.trace(), m.trace());
        for (int what = 0; what < 7; what++) {
            Checks.due("run " + run + ": many(" + what + ") behind " + call, x.many(what), m.many(what));
        }
    }

    private int step() {
        int drawn = random.nextInt(40);
        if (drawn == 0) {
            return text();
        }
        if (drawn == 1) {
            return acts();
        }
        if (drawn < 12) {
            return sheetCall();
        }
        return drawn < 24 ? parishCall() : guessCall();
    }

    private String drawnText() {
        StringBuilder b = new StringBuilder("t").append(1 + random.nextInt(4));
        int houses = 1 + random.nextInt(5);
        for (int h = 0; h < houses; h++) {
            b.append(';').append("pbd".charAt(random.nextInt(3))).append(random.nextInt(10)).append(random.nextInt(10));
        }
        if (random.nextBoolean()) {
            b.append('!');
            int stones = 1 + random.nextInt(4);
            for (int s = 0; s < stones; s++) {
                b.append(1 + random.nextInt(9));
            }
        }
        if (random.nextInt(3) == 0) {
            b.setCharAt(random.nextInt(b.length()), "t;!pbd0123456789x".charAt(random.nextInt(17)));
        }
        if (random.nextInt(4) == 0) {
            b.insert(random.nextInt(b.length() + 1), "t;!pbd0123456789x".charAt(random.nextInt(17)));
        }
        if (random.nextInt(4) == 0) {
            b.setLength(random.nextInt(b.length() + 1));
        }
        return b.toString();
    }

    private int text() {
        return onSheet(drawnText().chars().toArray(), true);
    }

    private int acts() {
        int[] acts = new int[random.nextInt(21)];
        int bound = random.nextInt(6) == 0 ? 16 : 15;
        for (int i = 0; i < acts.length; i++) {
            acts[i] = random.nextInt(3) == 0 ? 14 : random.nextInt(bound);
        }
        return onSheet(acts, false);
    }

    private int onSheet(int[] numbers, boolean isText) {
        int k = random.nextInt(4);
        int lane = random.nextInt(3);
        int from = random.nextInt(5);
        int length = Math.min(60, from + numbers.length + random.nextInt(3));
        same("sheet", x.sheet(k, lane, length), m.sheet(k, lane, length));
        for (int i = 0; i < numbers.length; i++) {
            same("put", x.put(k, from + i, numbers[i]), m.put(k, from + i, numbers[i]));
        }
        if (isText) {
            same("parish", x.parish(k, lane, from, numbers.length), m.parish(k, lane, from, numbers.length));
            return numbers.length + 2;
        }
        for (int what = 0; what < 15; what++) {
            same("day", x.day(k, lane, from, numbers.length, what), m.day(k, lane, from, numbers.length, what));
        }
        return numbers.length + 16;
    }

    private int sheetCall() {
        int k = some(4);
        int lane = some(3);
        int other = some(4);
        int i = some(12);
        int j = some(12);
        int n = some(12);
        int v = random.nextBoolean() ? random.nextInt() : some(15);
        switch (random.nextInt(8)) {
            case 0 -> same("sheet", x.sheet(k, lane, n), m.sheet(k, lane, n));
            case 1 -> same("lose", x.lose(k), m.lose(k));
            case 2, 3 -> same("put", x.put(k, i, v), m.put(k, i, v));
            case 4 -> same("cell", x.cell(k, i, lane), m.cell(k, i, lane));
            case 5 -> same("copy", x.copy(k, i, other, j, n), m.copy(k, i, other, j, n));
            case 6 -> same("parish", x.parish(k, lane, i, n), m.parish(k, lane, i, n));
            default -> same("day", x.day(k, lane, i, n, 1), m.day(k, lane, i, n, 1));
        }
        return 1;
    }

    private int parishCall() {
        int h = some(5);
        int what = some(7);
        switch (random.nextInt(10)) {
            case 0 -> same("ofHouse", x.ofHouse(h, what), m.ofHouse(h, what));
            case 1 -> same("ofStone", x.ofStone(h, what % 3), m.ofStone(h, what % 3));
            case 2 -> same("sleep", x.sleep(h, what), m.sleep(h, what));
            case 3 -> same("own", x.own(h), m.own(h));
            case 4 -> same("lay", x.lay(h), m.lay(h));
            case 5 -> same("night", x.night(what), m.night(what));
            case 6 -> same("tell", x.tell(h), m.tell(h));
            case 7 -> same("knock", x.knock(h), m.knock(h));
            case 8 -> same("as", x.as(h, what % 4), m.as(h, what % 4));
            default -> same("many", x.many(what), m.many(what));
        }
        return 1;
    }

    private int guessCall() {
        int h = some(5);
        int t = some(random.nextBoolean() ? 12 : 61);
        int v = some(random.nextBoolean() ? 20 : 91);
        int what = some(2);
        switch (random.nextInt(12)) {
            case 0 -> same("behind", x.behind(t, what), m.behind(t, what));
            case 1 -> same("quiet", x.quiet(), m.quiet());
            case 2 -> same("fewest", x.fewest(t, what), m.fewest(t, what));
            case 3 -> same("claps", x.claps(v, what), m.claps(v, what));
            case 4, 5 -> same("rests", x.rests(h, t % 6), m.rests(h, t % 6));
            case 6 -> same("reading", x.reading(t, v), m.reading(t, v));
            case 7 -> trueReading(t);
            case 8 -> same("back", x.back(what), m.back(what));
            case 9 -> same("kinds", x.kinds(h), m.kinds(h));
            case 10 -> same("wrongs", x.wrongs(h), m.wrongs(h));
            default -> {
                same("steps", x.steps(), m.steps());
                same("odds", x.odds(v, what), m.odds(v, what));
            }
        }
        return 1;
    }

    /** A drawn voice hardly ever fits, so most readings are of how loud it really gets. */
    private void trueReading(int t) {
        int v = x.behind(t, 0);
        same("reading", x.reading(t, v), m.reading(t, v));
    }
}
