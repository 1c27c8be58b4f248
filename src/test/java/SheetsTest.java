/** Promises 21 to 31: sheets, telling, knocking, kinds, trace, fault, many. */
public final class SheetsTest {
    public static void main(String[] args) {
        newRows();
        losing();
        putting();
        cells();
        copies();
        copyFaults();
        tellingAndKnocking();
        takenAs();
        faultIsOfTheLatestThatNamesOne();
        manies();
        Checks.end();
    }

    private static void newRows() {
        ThunderOwned x = new ThunderOwned();
        answer(x, "sheet(-1, 9, 99)", x.sheet(-1, 9, 99), ThunderOwned.UNKNOWN, 0);
        answer(x, "sheet(4, 0, 0)", x.sheet(4, 0, 0), ThunderOwned.UNKNOWN, 0);
        answer(x, "sheet(0, -1, -1)", x.sheet(0, -1, -1), ThunderOwned.OUTSIDE, 0);
        answer(x, "sheet(0, 3, 0)", x.sheet(0, 3, 0), ThunderOwned.OUTSIDE, 0);
        answer(x, "sheet(0, 0, 61)", x.sheet(0, 0, 61), ThunderOwned.OUTSIDE, 0);
        answer(x, "sheet(0, 0, -1)", x.sheet(0, 0, -1), -14, 4);
        Checks.due("it has nothing yet", x.lose(0), 0);
        answer(x, "sheet(0, 0, 60)", x.sheet(0, 0, 60), 1, 0);
        answer(x, "put the last", x.put(0, 59, 5), 1, 0);
        answer(x, "put the first", x.put(0, 0, 6), 1, 0);
        answer(x, "sheet too short", x.sheet(0, 1, Integer.MIN_VALUE), -14, 4);
        Checks.due("the row is as it was", x.cell(0, 59, 0), 5);
        answer(x, "sheet(0, 2, 60)", x.sheet(0, 2, 60), 1, 0);
        Checks.due("a new row is 0", x.cell(0, 59, 2), 0);
        Checks.due("from the first on", x.cell(0, 0, 2), 0);
        answer(x, "sheet(3, 2, 0)", x.sheet(3, 2, 0), 1, 0);
        answer(x, "none of its cells", x.put(3, 0, 1), -13, 3);
    }

    private static void losing() {
        ThunderOwned x = new ThunderOwned();
        x.sheet(2, 1, 0);
        Checks.due("lose(2)", x.lose(2), 1);
        Checks.due("lose(2) again", x.lose(2), 0);
        Checks.due("lose(-1)", x.lose(-1), ThunderOwned.UNKNOWN);
        Checks.due("lose(4)", x.lose(4), ThunderOwned.UNKNOWN);
        Checks.due("cell of nothing", x.cell(2, 0, 0), ThunderOwned.LOST);
        Checks.due("it is no cast", x.fault(), 1);
        x.sheet(2, 1, 1);
        Checks.due("a new row behind it", x.cell(2, 0, 1), 0);
    }

    private static void putting() {
        ThunderOwned x = new ThunderOwned();
        x.sheet(0, 0, 2);
        x.sheet(1, 1, 2);
        x.sheet(2, 2, 2);
        int[] values = {0, 127, 128, -128, -129, 255, 256, 32767, 32768, -32769, 65536, 70000,
            Integer.MAX_VALUE, Integer.MIN_VALUE};
        for (int v : values) {
            for (int k = 0; k < 3; k++) {
                answer(x, "put " + v, x.put(k, 1, v), 1, 0);
            }
            Checks.due("byte of " + v, x.cell(0, 1, 0), (byte) v);
            Checks.due("short of " + v, x.cell(1, 1, 1), (short) v);
            Checks.due("int of " + v, x.cell(2, 1, 2), v);
        }
        Checks.due("the other cell", x.cell(2, 0, 2), 0);
        answer(x, "put(4, ..)", x.put(4, 0, 0), ThunderOwned.UNKNOWN, 0);
        answer(x, "put(-1, ..)", x.put(-1, 0, 0), ThunderOwned.UNKNOWN, 0);
        answer(x, "put(3, 9, 0)", x.put(3, 9, 0), -11, 1);
        answer(x, "put(0, 2, 0)", x.put(0, 2, 0), -13, 3);
        answer(x, "put(0, -1, 0)", x.put(0, -1, 0), -13, 3);
        answer(x, "put far", x.put(0, Integer.MAX_VALUE, 0), -13, 3);
        answer(x, "put far below", x.put(0, Integer.MIN_VALUE, 0), -13, 3);
    }

    private static void cells() {
        ThunderOwned x = new ThunderOwned();
        Checks.row(x, 1, 1, 7, -8, 9);
        lost(x, "cell(4, ..)", x.cell(4, 0, 1), 0);
        lost(x, "cell(-1, ..)", x.cell(-1, 0, 1), 0);
        lost(x, "cell(1, 0, 3)", x.cell(1, 0, 3), 0);
        lost(x, "cell(1, 0, -1)", x.cell(1, 0, -1), 0);
        lost(x, "cell(1, 9, 0)", x.cell(1, 9, 0), 2);
        lost(x, "cell(1, 0, 2)", x.cell(1, 0, 2), 2);
        lost(x, "cell(0, 9, 2)", x.cell(0, 9, 2), 1);
        lost(x, "cell(1, 3, 1)", x.cell(1, 3, 1), 3);
        lost(x, "cell(1, -1, 1)", x.cell(1, -1, 1), 3);
        Checks.due("cell(1, 1, 1)", x.cell(1, 1, 1), -8);
        Checks.due("its fault", x.fault(), 0);
    }

    private static void lost(ThunderOwned x, String call, long got, int fault) {
        Checks.due(call, got, ThunderOwned.LOST);
        Checks.due(call + " fault", x.fault(), fault);
    }

    private static void copies() {
        ThunderOwned x = new ThunderOwned();
        Checks.row(x, 0, 0, 1, 2, 3, 4, 5);
        Checks.row(x, 1, 0, 0, 0, 0);
        answer(x, "copy to another", x.copy(0, 1, 1, 0, 3), 3, 0);
        rowIs(x, 1, 0, 2, 3, 4);
        answer(x, "copy upwards in itself", x.copy(0, 0, 0, 1, 4), 4, 0);
        rowIs(x, 0, 0, 1, 1, 2, 3, 4);
        answer(x, "copy downwards in itself", x.copy(0, 1, 0, 0, 4), 4, 0);
        rowIs(x, 0, 0, 1, 2, 3, 4, 4);
        answer(x, "none, from the end to the end", x.copy(0, 5, 1, 3, 0), 0, 0);
    }

    private static void rowIs(ThunderOwned x, int k, int lane, int... want) {
        for (int i = 0; i < want.length; i++) {
            Checks.due("cell " + i + " of " + k, x.cell(k, i, lane), want[i]);
        }
    }

    private static void copyFaults() {
        ThunderOwned x = new ThunderOwned();
        int most = Integer.MAX_VALUE;
        answer(x, "copy(4, .., 0)", x.copy(4, 0, 0, 0, 0), ThunderOwned.UNKNOWN, 0);
        answer(x, "copy(0, .., -1)", x.copy(0, 0, -1, 0, 0), ThunderOwned.UNKNOWN, 0);
        answer(x, "both nothing", x.copy(0, 0, 1, 0, 0), -11, 1);
        Checks.row(x, 0, 1, 1, 2);
        answer(x, "the other nothing", x.copy(0, -1, 1, 0, 0), -11, 1);
        answer(x, "the first nothing", x.copy(1, 0, 0, 0, 0), -11, 1);
        Checks.row(x, 1, 2, 3, 4, 5);
        answer(x, "unlike lanes", x.copy(0, -1, 1, 0, -1), -12, 2);
        Checks.row(x, 1, 1, 3, 4, 5);
        answer(x, "n below 0", x.copy(0, 0, 1, 0, -1), -13, 3);
        answer(x, "i below 0", x.copy(0, -1, 1, 0, 1), -13, 3);
        answer(x, "j below 0", x.copy(0, 0, 1, -1, 1), -13, 3);
        answer(x, "i beyond", x.copy(0, 3, 1, 0, 0), -13, 3);
        answer(x, "j beyond", x.copy(0, 0, 1, 4, 0), -13, 3);
        answer(x, "n beyond the first", x.copy(0, 0, 1, 0, 3), -13, 3);
        answer(x, "n beyond the other", x.copy(1, 0, 0, 0, 3), -13, 3);
        answer(x, "n that wraps", x.copy(0, 1, 1, 1, most), -13, 3);
        answer(x, "all that wrap", x.copy(0, most, 1, most, most), -13, 3);
        rowIs(x, 0, 1, 1, 2);
        rowIs(x, 1, 1, 3, 4, 5);
    }

    private static void tellingAndKnocking() {
        ThunderOwned x = Checks.parish("t1;p31;b42;d53");
        int trace = 0;
        Checks.due("tell(0)", x.tell(0), 3);
        trace = after(x, trace, 1);
        Checks.due("tell(1)", x.tell(1), 104);
        trace = after(x, trace, 2, 1);
        Checks.due("tell(2)", x.tell(2), 110);
        trace = after(x, trace, 3, 2, 1, 1);
        Checks.due("knock(0)", x.knock(0), 1);
        trace = after(x, trace, 4);
        Checks.due("knock(1)", x.knock(1), 2);
        trace = after(x, trace, 4);
        Checks.due("knock(2)", x.knock(2), 70);
        trace = after(x, trace, 5);
        for (int h : new int[] {-1, 3, 4, Integer.MIN_VALUE}) {
            Checks.due("tell(" + h + ")", x.tell(h), ThunderOwned.UNKNOWN);
            Checks.due("knock(" + h + ")", x.knock(h), ThunderOwned.UNKNOWN);
        }
        after(x, trace);
        x.sleep(1, 8);
        x.own(1);
        Checks.due("knock by sleep now", x.knock(1), 8);
        Checks.due("tell, owned", x.tell(1), 104);
    }

    private static int after(ThunderOwned x, int trace, int... bodies) {
        int due = trace;
        for (int body : bodies) {
            due = 31 * due + body;
        }
        Checks.due("trace", x.trace(), due);
        return due;
    }

    private static void takenAs() {
        ThunderOwned x = Checks.parish("t1;p31;b42;d53");
        for (int h = 0; h < 3; h++) {
            for (int kind = 0; kind < 3; kind++) {
                boolean is = kind <= h;
                answer(x, "as(" + h + ", " + kind + ")", x.as(h, kind), is ? 1 : -12, is ? 0 : 2);
            }
            answer(x, "as(" + h + ", 3)", x.as(h, 3), ThunderOwned.OUTSIDE, 0);
            answer(x, "as(" + h + ", -1)", x.as(h, -1), ThunderOwned.OUTSIDE, 0);
        }
        answer(x, "as(3, 3)", x.as(3, 3), ThunderOwned.UNKNOWN, 0);
        answer(x, "as(-1, 0)", x.as(-1, 0), ThunderOwned.UNKNOWN, 0);
    }

    private static void faultIsOfTheLatestThatNamesOne() {
        ThunderOwned x = Checks.parish("t1;p31");
        Checks.due("none", x.fault(), 0);
        x.as(0, 2);
        x.ofHouse(9, 9);
        x.night(99);
        x.odds(99, 0);
        x.lose(0);
        x.lose(9);
        x.tell(0);
        x.knock(9);
        x.many(9);
        x.reading(99, 0);
        Checks.due("still the cast", x.fault(), 2);
        Checks.due("fault() leaves it", x.fault(), 2);
        x.cell(3, 0, 0);
        Checks.due("then the null", x.fault(), 1);
        x.sheet(9, 0, 0);
        Checks.due("refused", x.fault(), 0);
        Checks.row(x, 0, 0, "t1;p31".chars().toArray());
        clears(x, "sheet", 0);
        clears(x, "put", 1);
        clears(x, "cell", 2);
        clears(x, "copy", 3);
        clears(x, "parish", 4);
        clears(x, "day", 5);
        clears(x, "as", 6);
    }

    /** A call that names faults and comes to none wipes out the one ahead of it. */
    private static void clears(ThunderOwned x, String name, int call) {
        x.put(3, 0, 0);
        Checks.due("a fault ahead of " + name, x.fault(), 1);
        long got = switch (call) {
            case 0 -> x.sheet(1, 0, 1);
            case 1 -> x.put(1, 0, 1);
            case 2 -> x.cell(1, 0, 0);
            case 3 -> x.copy(1, 0, 1, 0, 1);
            case 4 -> x.parish(0, 0, 0, 6);
            case 5 -> x.day(1, 0, 0, 0, 2) + 1;
            default -> x.as(0, 0);
        };
        Checks.due(name, got, 1);
        Checks.due("none behind " + name, x.fault(), 0);
    }

    private static void manies() {
        ThunderOwned x = Checks.parish("t3;p31;b42;d50!67");
        x.night(2);
        x.own(2);
        x.own(2);
        x.reading(0, 0);
        int[] due = {3, 2, 2, 2, 1, 0, 18};
        for (int what = 0; what < 7; what++) {
            Checks.due("many(" + what + ")", x.many(what), due[what]);
        }
        Checks.due("many(7)", x.many(7), ThunderOwned.OUTSIDE);
        Checks.due("many(-1)", x.many(-1), ThunderOwned.OUTSIDE);
    }

    private static void answer(ThunderOwned x, String call, long got, long want, int fault) {
        Checks.due(call, got, want);
        Checks.due(call + " fault", x.fault(), fault);
    }
}
