/** Boundary cases of promises 21 to 31, and of SHEETS, LANES, FAULTS, TELLING and TRACE: a test for each. */
public final class SheetsEdgesTest {
    public static void main(String[] args) {
        sheetOfNoSuchNumber();
        sheetOfNoLane();
        sheetTooLong();
        sheetOfALengthBelowZero();
        emptySheet();
        longestSheet();
        newRowIsZero();
        newRowIsOfItsOwnLengthAndLane();
        loseOfNoSuchNumber();
        loseOfNothing();
        loseOfAnEmptyRow();
        lostRowIsGone();
        putOnNoSheet();
        putOnNothing();
        putBeyondARow();
        putAtTheEndsOfARow();
        putIsCutToBytes();
        putIsCutToShorts();
        putIsNotCutOnInts();
        cellOfNoSheet();
        cellOfNoLane();
        cellOfAnotherLane();
        cellOfNothing();
        cellBeyondARow();
        cellAtTheEndsOfARow();
        copyOfNoSheet();
        copyOfNothing();
        copyOfUnlikeLanes();
        copyFromBelowOrBeyond();
        copyToBelowOrBeyond();
        copyOfTooFewOrTooMany();
        copyOfNone();
        copyOfAWholeRow();
        copyWithinARow();
        copyOfEachLane();
        tellWithoutAHouse();
        tellOfEachKind();
        tellOfTheLeastAndTheMost();
        knockWithoutAHouse();
        knockOfEachKind();
        traceWraps();
        traceOfBodiesAlone();
        asWithoutAHouse();
        asOfNoSuchKind();
        asOfEachKind();
        faultAheadOfAny();
        faultsAndTheirNumbers();
        faultBehindARefusal();
        faultBehindACallThatComesToNone();
        faultBehindCallsThatNameNone();
        manyOfNoSuchNumber();
        manyWithoutAParish();
        manyWhereAllIsFull();
        Checks.end();
    }

    private static void sheetOfNoSuchNumber() {
        for (int k : new int[] {-1, 4, Edges.MOST, Edges.LEAST}) {
            Edges.stopped("sheet(" + k + ", 0, 1)", x -> x.sheet(k, 0, 1), ThunderOwned.UNKNOWN, 0);
            Edges.stopped("ahead of OUTSIDE", x -> x.sheet(k, 3, 61), ThunderOwned.UNKNOWN, 0);
            Edges.stopped("ahead of SIZE", x -> x.sheet(k, 0, -1), ThunderOwned.UNKNOWN, 0);
        }
    }

    private static void sheetOfNoLane() {
        for (int lane : new int[] {-1, 3, Edges.MOST, Edges.LEAST}) {
            Edges.stopped("sheet(1, " + lane + ", 1)", x -> x.sheet(1, lane, 1), ThunderOwned.OUTSIDE, 0);
            Edges.stopped("ahead of SIZE", x -> x.sheet(1, lane, -1), ThunderOwned.OUTSIDE, 0);
        }
    }

    private static void sheetTooLong() {
        Edges.stopped("sheet(1, 0, 61)", x -> x.sheet(1, 0, 61), ThunderOwned.OUTSIDE, 0);
        Edges.stopped("sheet far too long", x -> x.sheet(1, 1, Edges.MOST), ThunderOwned.OUTSIDE, 0);
        Edges.stopped("where there was nothing", x -> x.sheet(3, 2, 61), ThunderOwned.OUTSIDE, 0);
    }

    private static void sheetOfALengthBelowZero() {
        Edges.stopped("sheet(1, 0, -1)", x -> x.sheet(1, 0, -1), -14, 4);
        Edges.stopped("sheet far below", x -> x.sheet(1, 1, Edges.LEAST), -14, 4);
        Edges.stopped("where there was nothing", x -> x.sheet(3, 2, -1), -14, 4);
    }

    private static void emptySheet() {
        for (int lane = 0; lane < 3; lane++) {
            ThunderOwned x = new ThunderOwned();
            answer(x, "a row of 0", x.sheet(0, lane, 0), 1, 0);
            answer(x, "no first cell", x.put(0, 0, 1), -13, 3);
            answer(x, "nor one to see", x.cell(0, 0, lane), ThunderOwned.LOST, 3);
            answer(x, "of another lane", x.cell(0, 0, (lane + 1) % 3), ThunderOwned.LOST, 2);
            Checks.due("but it has something", x.lose(0), 1);
        }
    }

    private static void longestSheet() {
        for (int k = 0; k < 4; k++) {
            ThunderOwned x = new ThunderOwned();
            answer(x, "a row of 60", x.sheet(k, 2, 60), 1, 0);
            answer(x, "its last cell", x.put(k, 59, 7), 1, 0);
            answer(x, "as it is then", x.cell(k, 59, 2), 7, 0);
            answer(x, "none behind it", x.put(k, 60, 7), -13, 3);
            answer(x, "none to see", x.cell(k, 60, 2), ThunderOwned.LOST, 3);
        }
    }

    private static void newRowIsZero() {
        ThunderOwned x = new ThunderOwned();
        x.sheet(0, 2, 60);
        for (int i = 0; i < 60; i++) {
            Checks.due("cell " + i + " at first", x.cell(0, i, 2), 0);
            x.put(0, i, -1 - i);
        }
        x.sheet(0, 2, 60);
        for (int i = 0; i < 60; i++) {
            Checks.due("cell " + i + " anew", x.cell(0, i, 2), 0);
        }
    }

    private static void newRowIsOfItsOwnLengthAndLane() {
        ThunderOwned x = new ThunderOwned();
        Checks.row(x, 0, 2, 1, 2, 3, 4);
        answer(x, "a shorter one of bytes", x.sheet(0, 0, 2), 1, 0);
        answer(x, "no third cell", x.cell(0, 2, 0), ThunderOwned.LOST, 3);
        answer(x, "no ints", x.cell(0, 0, 2), ThunderOwned.LOST, 2);
        answer(x, "a longer one again", x.sheet(0, 0, 4), 1, 0);
        answer(x, "nothing of the old one", x.cell(0, 2, 0), 0, 0);
        answer(x, "the other sheets", x.cell(1, 0, 0), ThunderOwned.LOST, 1);
    }

    private static void loseOfNoSuchNumber() {
        for (int k : new int[] {-1, 4, Edges.MOST, Edges.LEAST}) {
            Edges.refused("lose(" + k + ")", x -> x.lose(k), ThunderOwned.UNKNOWN);
        }
    }

    private static void loseOfNothing() {
        Edges.refused("lose(3)", x -> x.lose(3), 0);
    }

    private static void loseOfAnEmptyRow() {
        ThunderOwned x = new ThunderOwned();
        x.sheet(0, 0, 0);
        Checks.due("it had something", x.lose(0), 1);
        Checks.due("it has nothing", x.lose(0), 0);
    }

    private static void lostRowIsGone() {
        ThunderOwned x = Edges.lived();
        Checks.due("lose(1)", x.lose(1), 1);
        Checks.due("fault() stays", x.fault(), Edges.FAULT_AHEAD);
        answer(x, "nothing to see", x.cell(1, 0, 1), ThunderOwned.LOST, 1);
        answer(x, "the other ones stay", x.cell(2, 3, 2), 70000, 0);
        answer(x, "a new row", x.sheet(1, 1, 4), 1, 0);
        answer(x, "without what was lost", x.cell(1, 0, 1), 0, 0);
    }

    private static void putOnNoSheet() {
        for (int k : new int[] {-1, 4, Edges.MOST, Edges.LEAST}) {
            Edges.stopped("put(" + k + ", 0, 5)", x -> x.put(k, 0, 5), ThunderOwned.UNKNOWN, 0);
            Edges.stopped("ahead of INDEX", x -> x.put(k, -1, 5), ThunderOwned.UNKNOWN, 0);
        }
    }

    private static void putOnNothing() {
        Edges.stopped("put(3, 0, 5)", x -> x.put(3, 0, 5), -11, 1);
        Edges.stopped("ahead of INDEX below", x -> x.put(3, -1, 5), -11, 1);
        Edges.stopped("ahead of INDEX above", x -> x.put(3, 60, 5), -11, 1);
    }

    private static void putBeyondARow() {
        for (int i : new int[] {-1, 4, 59, 60, Edges.MOST, Edges.LEAST}) {
            Edges.stopped("put(1, " + i + ", 5)", x -> x.put(1, i, 5), -13, 3);
        }
    }

    private static void putAtTheEndsOfARow() {
        ThunderOwned x = Edges.lived();
        answer(x, "the first cell", x.put(1, 0, 5), 1, 0);
        answer(x, "the last cell", x.put(1, 3, 6), 1, 0);
        rowIs(x, 1, 1, 5, 15, -1, 6);
    }

    private static void putIsCutToBytes() {
        int[] values = {127, 128, 255, 256, -128, -129, 32768, Edges.MOST, Edges.LEAST};
        int[] due = {127, -128, -1, 0, -128, 127, 0, -1, 0};
        putIsCut(0, values, due);
    }

    private static void putIsCutToShorts() {
        int[] values = {128, 32767, 32768, 65535, 65536, -32768, -32769, Edges.MOST, Edges.LEAST};
        int[] due = {128, 32767, -32768, -1, 0, -32768, 32767, -1, 0};
        putIsCut(1, values, due);
    }

    private static void putIsNotCutOnInts() {
        int[] values = {128, 32768, 65536, -32769, Edges.MOST, Edges.LEAST};
        putIsCut(2, values, values);
    }

    private static void putIsCut(int lane, int[] values, int[] due) {
        ThunderOwned x = new ThunderOwned();
        x.sheet(0, lane, 1);
        for (int i = 0; i < values.length; i++) {
            answer(x, "put " + values[i], x.put(0, 0, values[i]), 1, 0);
            answer(x, values[i] + " on lane " + lane, x.cell(0, 0, lane), due[i], 0);
        }
    }

    private static void cellOfNoSheet() {
        for (int k : new int[] {-1, 4, Edges.MOST, Edges.LEAST}) {
            Edges.stopped("cell(" + k + ", 0, 1)", x -> x.cell(k, 0, 1), ThunderOwned.LOST, 0);
            Edges.stopped("ahead of INDEX", x -> x.cell(k, -1, 1), ThunderOwned.LOST, 0);
        }
    }

    private static void cellOfNoLane() {
        for (int lane : new int[] {-1, 3, Edges.MOST, Edges.LEAST}) {
            Edges.stopped("cell(1, 0, " + lane + ")", x -> x.cell(1, 0, lane), ThunderOwned.LOST, 0);
            Edges.stopped("ahead of NULL", x -> x.cell(3, 0, lane), ThunderOwned.LOST, 0);
            Edges.stopped("ahead of INDEX", x -> x.cell(1, 4, lane), ThunderOwned.LOST, 0);
        }
    }

    private static void cellOfAnotherLane() {
        Edges.stopped("a short as a byte", x -> x.cell(1, 0, 0), ThunderOwned.LOST, 2);
        Edges.stopped("a short as an int", x -> x.cell(1, 0, 2), ThunderOwned.LOST, 2);
        Edges.stopped("ahead of INDEX", x -> x.cell(1, 4, 2), ThunderOwned.LOST, 2);
        Edges.changesOnlyFault("a byte as a short", Edges::lived, x -> x.cell(0, 0, 1), ThunderOwned.LOST, 2);
        Edges.changesOnlyFault("an int as a short", Edges::lived, x -> x.cell(2, 0, 1), ThunderOwned.LOST, 2);
    }

    private static void cellOfNothing() {
        for (int lane = 0; lane < 3; lane++) {
            int as = lane;
            Edges.stopped("nothing, as lane " + lane, x -> x.cell(3, 0, as), ThunderOwned.LOST, 1);
            Edges.stopped("ahead of INDEX", x -> x.cell(3, -1, as), ThunderOwned.LOST, 1);
        }
        ThunderOwned x = new ThunderOwned();
        x.sheet(3, 2, 1);
        x.lose(3);
        answer(x, "no CAST of a lane that it had", x.cell(3, 0, 0), ThunderOwned.LOST, 1);
    }

    private static void cellBeyondARow() {
        for (int i : new int[] {-1, 4, 59, 60, Edges.MOST, Edges.LEAST}) {
            Edges.stopped("cell(1, " + i + ", 1)", x -> x.cell(1, i, 1), ThunderOwned.LOST, 3);
        }
    }

    private static void cellAtTheEndsOfARow() {
        Edges.stopped("the first", x -> x.cell(1, 0, 1), 14, 0);
        Edges.stopped("the last", x -> x.cell(1, 3, 1), 3, 0);
    }

    private static void copyOfNoSheet() {
        for (int k : new int[] {-1, 4, Edges.MOST, Edges.LEAST}) {
            Edges.stopped("from sheet " + k, x -> x.copy(k, 0, 1, 0, 1), ThunderOwned.UNKNOWN, 0);
            Edges.stopped("to sheet " + k, x -> x.copy(1, 0, k, 0, 1), ThunderOwned.UNKNOWN, 0);
            Edges.stopped("both", x -> x.copy(k, 0, k, 0, 1), ThunderOwned.UNKNOWN, 0);
            Edges.stopped("ahead of NULL of the first", x -> x.copy(3, -1, k, 0, -1), ThunderOwned.UNKNOWN, 0);
            Edges.stopped("ahead of NULL of the other", x -> x.copy(k, -1, 3, 0, -1), ThunderOwned.UNKNOWN, 0);
        }
    }

    private static void copyOfNothing() {
        Edges.stopped("from nothing", x -> x.copy(3, 0, 1, 0, 1), -11, 1);
        Edges.stopped("to nothing", x -> x.copy(1, 0, 3, 0, 1), -11, 1);
        Edges.stopped("both", x -> x.copy(3, 0, 3, 0, 0), -11, 1);
        Edges.stopped("ahead of INDEX of i", x -> x.copy(1, -1, 3, 0, 0), -11, 1);
        Edges.stopped("ahead of INDEX of j", x -> x.copy(3, 0, 1, -1, 0), -11, 1);
        Edges.stopped("ahead of INDEX of n", x -> x.copy(1, 0, 3, 0, -1), -11, 1);
        ThunderOwned x = new ThunderOwned();
        Checks.row(x, 0, 2, 1);
        x.sheet(1, 0, 1);
        x.lose(1);
        answer(x, "ahead of CAST, to nothing", x.copy(0, 0, 1, 0, 1), -11, 1);
        answer(x, "ahead of CAST, from nothing", x.copy(1, 0, 0, 0, 1), -11, 1);
    }

    private static void copyOfUnlikeLanes() {
        int[] lanes = {0, 1, 2};
        for (int from : lanes) {
            for (int to : lanes) {
                if (from != to) {
                    copyStopped("from " + from + " to " + to, x -> x.copy(from, 0, to, 0, 1), -12, 2);
                    copyStopped("none of it", x -> x.copy(from, 0, to, 0, 0), -12, 2);
                    copyStopped("ahead of INDEX", x -> x.copy(from, -1, to, 99, -1), -12, 2);
                }
            }
        }
    }

    private static void copyFromBelowOrBeyond() {
        for (int i : new int[] {-1, 5, Edges.MOST, Edges.LEAST}) {
            Edges.stopped("none from " + i, x -> x.copy(1, i, 1, 0, 0), -13, 3);
            Edges.stopped("one from " + i, x -> x.copy(1, i, 1, 0, 1), -13, 3);
        }
        Edges.stopped("one from the end", x -> x.copy(1, 4, 1, 0, 1), -13, 3);
        Edges.stopped("two from the last", x -> x.copy(1, 3, 1, 0, 2), -13, 3);
    }

    private static void copyToBelowOrBeyond() {
        for (int j : new int[] {-1, 5, Edges.MOST, Edges.LEAST}) {
            Edges.stopped("none to " + j, x -> x.copy(1, 0, 1, j, 0), -13, 3);
            Edges.stopped("one to " + j, x -> x.copy(1, 0, 1, j, 1), -13, 3);
        }
        Edges.stopped("one to the end", x -> x.copy(1, 0, 1, 4, 1), -13, 3);
        Edges.stopped("two to the last", x -> x.copy(1, 0, 1, 3, 2), -13, 3);
    }

    private static void copyOfTooFewOrTooMany() {
        for (int n : new int[] {-1, 5, Edges.MOST, Edges.LEAST}) {
            Edges.stopped(n + " from 0 to 0", x -> x.copy(1, 0, 1, 0, n), -13, 3);
            Edges.stopped(n + " from 4 to 4", x -> x.copy(1, 4, 1, 4, n), -13, 3);
        }
        Edges.stopped("all that wrap", x -> x.copy(1, Edges.MOST, 1, Edges.MOST, Edges.MOST), -13, 3);
        copyStopped("more than the other one has", x -> x.copy(0, 0, 3, 0, 3), -13, 3);
        copyStopped("more than the first one has", x -> x.copy(3, 0, 0, 0, 3), -13, 3);
    }

    private static void copyOfNone() {
        Edges.stopped("from 0 to 0", x -> x.copy(1, 0, 1, 0, 0), 0, 0);
        Edges.stopped("from the end to the end", x -> x.copy(1, 4, 1, 4, 0), 0, 0);
        ThunderOwned x = new ThunderOwned();
        x.sheet(0, 0, 0);
        x.sheet(1, 0, 0);
        answer(x, "of rows without cells", x.copy(0, 0, 1, 0, 0), 0, 0);
        answer(x, "beyond them", x.copy(0, 1, 1, 0, 0), -13, 3);
    }

    private static void copyOfAWholeRow() {
        ThunderOwned x = new ThunderOwned();
        x.sheet(0, 2, 60);
        x.sheet(3, 2, 60);
        for (int i = 0; i < 60; i++) {
            x.put(0, i, i + 1);
        }
        answer(x, "all 60", x.copy(0, 0, 3, 0, 60), 60, 0);
        for (int i = 0; i < 60; i++) {
            answer(x, "cell " + i, x.cell(3, i, 2), i + 1, 0);
        }
        answer(x, "the last to the first", x.copy(0, 59, 3, 0, 1), 1, 0);
        answer(x, "is there", x.cell(3, 0, 2), 60, 0);
        answer(x, "the first to the last", x.copy(0, 0, 3, 59, 1), 1, 0);
        answer(x, "is there", x.cell(3, 59, 2), 1, 0);
    }

    private static void copyWithinARow() {
        ThunderOwned x = new ThunderOwned();
        Checks.row(x, 0, 1, 1, 2, 3, 4, 5);
        answer(x, "upwards, as they were", x.copy(0, 0, 0, 2, 3), 3, 0);
        rowIs(x, 0, 1, 1, 2, 1, 2, 3);
        Checks.row(x, 0, 1, 1, 2, 3, 4, 5);
        answer(x, "downwards, as they were", x.copy(0, 2, 0, 0, 3), 3, 0);
        rowIs(x, 0, 1, 3, 4, 5, 4, 5);
        answer(x, "to where they are", x.copy(0, 0, 0, 0, 5), 5, 0);
        rowIs(x, 0, 1, 3, 4, 5, 4, 5);
    }

    private static void copyOfEachLane() {
        int[] least = {Byte.MIN_VALUE, Short.MIN_VALUE, Edges.LEAST};
        int[] most = {Byte.MAX_VALUE, Short.MAX_VALUE, Edges.MOST};
        for (int lane = 0; lane < 3; lane++) {
            ThunderOwned x = new ThunderOwned();
            Checks.row(x, 0, lane, least[lane], most[lane]);
            Checks.row(x, 1, lane, 7, 8, 9);
            answer(x, "two", x.copy(0, 0, 1, 1, 2), 2, 0);
            rowIs(x, 1, lane, 7, least[lane], most[lane]);
            rowIs(x, 0, lane, least[lane], most[lane]);
        }
    }

    private static void tellWithoutAHouse() {
        for (int h : new int[] {-1, 4, 5, Edges.MOST, Edges.LEAST}) {
            Edges.changesNothing("tell(" + h + ")", Edges::lived, x -> x.tell(h), ThunderOwned.UNKNOWN);
        }
        Edges.changesNothing("no parish", Edges::bare, x -> x.tell(0), ThunderOwned.UNKNOWN);
    }

    private static void tellOfEachKind() {
        int[] answers = {3, 104, 110};
        int[] traces = {1, 2 * 31 + 1, ((3 * 31 + 2) * 31 + 1) * 31 + 1};
        for (int h = 0; h < 3; h++) {
            ThunderOwned x = Checks.parish("t1;p31;b42;d53");
            Checks.due("tell(" + h + ")", x.tell(h), answers[h]);
            Checks.due("trace of it", x.trace(), traces[h]);
        }
    }

    private static void tellOfTheLeastAndTheMost() {
        ThunderOwned x = Checks.parish("t1;p00;b00;d00;b90;d90");
        int[] answers = {0, 100, 100, 109, 118};
        for (int h = 0; h < 5; h++) {
            Checks.due("tell(" + h + ")", x.tell(h), answers[h]);
        }
    }

    private static void knockWithoutAHouse() {
        for (int h : new int[] {-1, 4, 5, Edges.MOST, Edges.LEAST}) {
            Edges.changesNothing("knock(" + h + ")", Edges::lived, x -> x.knock(h), ThunderOwned.UNKNOWN);
        }
        Edges.changesNothing("no parish", Edges::bare, x -> x.knock(0), ThunderOwned.UNKNOWN);
    }

    private static void knockOfEachKind() {
        int[] answers = {0, 9, 70};
        int[] traces = {4, 4, 5};
        for (int h = 0; h < 3; h++) {
            ThunderOwned x = Checks.parish("t1;p30;b49;d53");
            Checks.due("knock(" + h + ")", x.knock(h), answers[h]);
            Checks.due("trace of it", x.trace(), traces[h]);
        }
    }

    private static void traceWraps() {
        ThunderOwned x = Checks.parish("t1;d50");
        int[] due = {5, 160, 4965, 153920, 4771525, 147917280, 290468389, 414585472, -32752251, -1015319776};
        for (int n = 0; n < due.length; n++) {
            x.knock(0);
            Checks.due("knocked " + (n + 1) + " times", x.trace(), due[n]);
        }
        x.tell(0);
        long wide = -1015319776L;
        for (int body : new int[] {3, 2, 1, 1}) {
            wide = Math.floorMod(wide * 31 + body + (1L << 31), 1L << 32) - (1L << 31);
        }
        Checks.due("told once", x.trace(), wide);
    }

    private static void traceOfBodiesAlone() {
        Edges.changesNothing("trace()", Edges::lived, x -> x.trace(), ((3 * 31 + 2) * 31 + 1) * 31 + 1);
        ThunderOwned x = Edges.lived();
        int trace = x.trace();
        x.as(2, 0);
        x.night(1);
        x.own(0);
        x.kinds(0);
        Checks.due("no other call leaves a number", x.trace(), trace);
    }

    private static void asWithoutAHouse() {
        for (int h : new int[] {-1, 4, 5, Edges.MOST, Edges.LEAST}) {
            Edges.stopped("as(" + h + ", 0)", x -> x.as(h, 0), ThunderOwned.UNKNOWN, 0);
            Edges.stopped("ahead of OUTSIDE", x -> x.as(h, 3), ThunderOwned.UNKNOWN, 0);
        }
        Edges.changesOnlyFault("no parish", Edges::bare, x -> x.as(0, 3), ThunderOwned.UNKNOWN, 0);
    }

    private static void asOfNoSuchKind() {
        for (int kind : new int[] {-1, 3, Edges.MOST, Edges.LEAST}) {
            Edges.changesOnlyFault("as(0, " + kind + ")", Edges::lived, x -> x.as(0, kind), ThunderOwned.OUTSIDE, 0);
            Edges.changesOnlyFault("as(2, " + kind + ")", Edges::lived, x -> x.as(2, kind), ThunderOwned.OUTSIDE, 0);
        }
    }

    private static void asOfEachKind() {
        int[][] due = {{1, -12, -12}, {1, 1, -12}, {1, 1, 1}};
        for (int h = 0; h < 3; h++) {
            for (int kind = 0; kind < 3; kind++) {
                int of = h;
                int as = kind;
                int fault = due[h][kind] == 1 ? 0 : 2;
                String name = "as(" + h + ", " + kind + ")";
                Edges.changesOnlyFault(name, Edges::lived, x -> x.as(of, as), due[h][kind], fault);
            }
        }
    }

    private static void faultAheadOfAny() {
        ThunderOwned x = new ThunderOwned();
        Checks.due("of a new one", x.fault(), 0);
        x.own(0);
        x.night(0);
        x.odds(91, 0);
        x.lose(0);
        Checks.due("behind calls that name none", x.fault(), 0);
    }

    private static void faultsAndTheirNumbers() {
        ThunderOwned x = Edges.lived();
        answer(x, "1 NULL", x.put(3, 0, 0), -11, 1);
        answer(x, "2 CAST", x.as(0, 1), -12, 2);
        answer(x, "3 INDEX", x.put(1, 4, 0), -13, 3);
        answer(x, "4 SIZE", x.sheet(1, 1, -1), -14, 4);
        answer(x, "1 of a long", x.cell(3, 0, 0), ThunderOwned.LOST, 1);
        answer(x, "2 of a long", x.cell(1, 0, 0), ThunderOwned.LOST, 2);
        answer(x, "3 of a long", x.cell(1, 4, 1), ThunderOwned.LOST, 3);
        Checks.due("asking leaves it", x.fault(), 3);
    }

    private static void faultBehindARefusal() {
        zeroBehind("parish", x -> x.parish(4, 0, 0, 0), ThunderOwned.UNKNOWN);
        zeroBehind("day", x -> x.day(4, 0, 0, 0, 0), ThunderOwned.UNKNOWN);
        zeroBehind("day with an act", x -> x.day(1, 1, 1, 1, 0), ThunderOwned.OUTSIDE);
        zeroBehind("sheet", x -> x.sheet(4, 0, 0), ThunderOwned.UNKNOWN);
        zeroBehind("put", x -> x.put(4, 0, 0), ThunderOwned.UNKNOWN);
        zeroBehind("cell", x -> x.cell(4, 0, 0), ThunderOwned.LOST);
        zeroBehind("copy", x -> x.copy(4, 0, 0, 0, 0), ThunderOwned.UNKNOWN);
        zeroBehind("as", x -> x.as(4, 0), ThunderOwned.UNKNOWN);
    }

    private static void faultBehindACallThatComesToNone() {
        zeroBehind("parish", x -> x.parish(0, 0, 0, 22), 4);
        zeroBehind("parish with a FIRST FAULT", x -> x.parish(0, 0, 0, 0), -100);
        zeroBehind("day", x -> x.day(1, 1, 0, 1, 4), 1);
        zeroBehind("the place of a FIRST WRONG", x -> x.day(2, 2, 0, 2, 1), 0);
        zeroBehind("day with a FIRST WRONG", x -> x.day(2, 2, 0, 2, 0), -100);
        zeroBehind("sheet", x -> x.sheet(0, 0, 0), 1);
        zeroBehind("put", x -> x.put(1, 0, 0), 1);
        zeroBehind("cell", x -> x.cell(1, 0, 1), 14);
        zeroBehind("copy", x -> x.copy(1, 0, 1, 0, 1), 1);
        zeroBehind("as", x -> x.as(2, 2), 1);
    }

    private static void zeroBehind(String name, Edges.Call call, long answer) {
        ThunderOwned x = Edges.lived();
        Checks.due("a fault ahead of " + name, x.fault(), Edges.FAULT_AHEAD);
        answer(x, name, call.on(x), answer, 0);
    }

    private static void faultBehindCallsThatNameNone() {
        Edges.Call[] calls = {x -> x.ofHouse(0, 0), x -> x.ofHouse(9, 0), x -> x.ofStone(0, 0), x -> x.ofStone(9, 0),
            x -> x.sleep(0, 1), x -> x.sleep(0, 10), x -> x.own(0), x -> x.own(9), x -> x.lay(0), x -> x.lay(1),
            x -> x.night(1), x -> x.night(0), x -> x.behind(1, 0), x -> x.behind(61, 0), x -> x.quiet(),
            x -> x.fewest(1, 0), x -> x.fewest(61, 0), x -> x.claps(1, 0), x -> x.claps(91, 0), x -> x.rests(0, 1),
            x -> x.rests(0, 0), x -> x.reading(1, 1), x -> x.reading(61, 1), x -> x.back(1), x -> x.back(9),
            x -> x.kinds(0), x -> x.kinds(9), x -> x.wrongs(0), x -> x.wrongs(9), x -> x.steps(), x -> x.odds(1, 0),
            x -> x.odds(91, 0), x -> x.lose(0), x -> x.lose(3), x -> x.lose(9), x -> x.tell(0), x -> x.tell(9),
            x -> x.knock(0), x -> x.knock(9), x -> x.trace(), x -> x.fault(), x -> x.many(0), x -> x.many(9)};
        for (int c = 0; c < calls.length; c++) {
            ThunderOwned x = Edges.lived();
            calls[c].on(x);
            Checks.due("fault() behind call " + c + " that names none", x.fault(), Edges.FAULT_AHEAD);
        }
    }

    private static void manyOfNoSuchNumber() {
        for (int what : new int[] {-1, 7, Edges.MOST, Edges.LEAST}) {
            Edges.refused("many(" + what + ")", x -> x.many(what), ThunderOwned.OUTSIDE);
        }
    }

    private static void manyWithoutAParish() {
        for (int what = 0; what < 7; what++) {
            int asked = what;
            Edges.changesNothing("many(" + what + ")", Edges::bare, x -> x.many(asked), 0);
        }
    }

    private static void manyWhereAllIsFull() {
        int[] due = {4, 3, 2, 1, 8, 2, 26};
        for (int what = 0; what < 7; what++) {
            int asked = what;
            Edges.changesNothing("many(" + what + ")", Edges::full, x -> x.many(asked), due[what]);
        }
    }

    private static void answer(ThunderOwned x, String call, long got, long want, int fault) {
        Checks.due(call, got, want);
        Checks.due(call + ", fault()", x.fault(), fault);
    }

    private static void rowIs(ThunderOwned x, int k, int lane, int... want) {
        for (int i = 0; i < want.length; i++) {
            Checks.due("cell " + i + " of " + k, x.cell(k, i, lane), want[i]);
        }
    }

    /** A copy that needs two rows: SHEETS 0, 1, 2 have three cells of the LANE of their number, 3 two bytes. */
    private static void copyStopped(String name, Edges.Call call, long answer, int fault) {
        Edges.changesOnlyFault(name, SheetsEdgesTest::ofEachLane, call, answer, fault);
    }

    private static ThunderOwned ofEachLane() {
        ThunderOwned x = new ThunderOwned();
        for (int k = 0; k < 3; k++) {
            Checks.row(x, k, k, 1, 2, 3);
        }
        Checks.row(x, 3, 0, 4, 5);
        return x;
    }
}
