/** Boundary cases of promises 1 to 5, and of TEXT, FIRST FAULT, WEIGHT, RANKLES and VOICE: a test for each. */
public final class ParishEdgesTest {
    private static final String DIGITS = "0123456789";
    private static final String DIGITS_OF_STONES = "123456789";
    private static final String FOUR_HOUSES = "t2;p00;b99;d12;p34";
    private static final String FIVE_HOUSES = FOUR_HOUSES + ";d90";

    public static void main(String[] args) {
        newObjectHasNoParish();
        newObjectHasNothingOnSheets();
        emptyText();
        headOfText();
        stepIsOneToFour();
        firstHouseIsDue();
        kindsAreThreeLetters();
        wrongIsADigit();
        sleepIsADigit();
        houseOrStonesFollowAHouse();
        houseIsDueBehindItsMark();
        fifthHouseIsTheLast();
        stoneIsDueBehindItsMark();
        stonesAreOneToFour();
        stonesBehindFiveHouses();
        textThatJustEndsTooSoon();
        longestText();
        codesAreNotCutOnTheWay();
        byteCodesAreCutAsTheyCome();
        firstFaultIsCountedFromTheText();
        cellsBehindTheTextAreNoPartOfIt();
        firstFaultChangesNothing();
        parishOfNoSheet();
        parishOfNoLane();
        parishOfAnotherLane();
        parishOfNothing();
        parishOfALengthBelowZero();
        parishOfCellsThatAreNotThere();
        parishOfNoCells();
        parishOfARowWithoutCells();
        takenTextMakesAllAnew();
        takenTextLeavesSheetsAndTrace();
        weightOfNoWrong();
        weightOfTheGreatestWrong();
        ranklesAboveZeroAlone();
        voiceOfStonesAlone();
        loudestVoice();
        ofHouseWithoutOne();
        ofHouseOfNoSuchNumber();
        ofStoneWithoutOne();
        ofStoneOfNoSuchNumber();
        sleepWithoutAHouse();
        sleepOfZeroToNine();
        Checks.end();
    }

    private static void newObjectHasNoParish() {
        for (int what = 0; what <= 6; what++) {
            Checks.due("many(" + what + ") of a new one", new ThunderOwned().many(what), 0);
        }
        Checks.due("no house of a new one", new ThunderOwned().ofHouse(0, 0), ThunderOwned.UNKNOWN);
        Checks.due("no stone of a new one", new ThunderOwned().ofStone(0, 0), ThunderOwned.UNKNOWN);
        Checks.due("no fault of a new one", new ThunderOwned().fault(), 0);
        Checks.due("no trace of a new one", new ThunderOwned().trace(), 0);
    }

    private static void newObjectHasNothingOnSheets() {
        for (int k = 0; k < 4; k++) {
            Checks.due("lose(" + k + ") of a new one", new ThunderOwned().lose(k), 0);
            Checks.due("put on " + k + " of a new one", new ThunderOwned().put(k, 0, 0), -11);
        }
    }

    private static void emptyText() {
        Checks.due("no codes", Checks.text(new ThunderOwned(), ""), -100);
    }

    private static void headOfText() {
        goesOn("", "t", -101);
    }

    private static void stepIsOneToFour() {
        goesOn("t", "1234", -102);
    }

    private static void firstHouseIsDue() {
        goesOn("t2", ";", -103);
    }

    private static void kindsAreThreeLetters() {
        goesOn("t2;", "pbd", -104);
    }

    private static void wrongIsADigit() {
        goesOn("t2;p", DIGITS, -105);
        goesOn("t2;b", DIGITS, -105);
        goesOn("t2;d", DIGITS, -105);
    }

    private static void sleepIsADigit() {
        goesOn("t2;p0", DIGITS, 1);
        goesOn("t2;d9", DIGITS, 1);
    }

    private static void houseOrStonesFollowAHouse() {
        goesOn("t2;b00", ";!", -107);
        goesOn(FOUR_HOUSES, ";!", -119);
    }

    private static void houseIsDueBehindItsMark() {
        goesOn("t2;b00;", "pbd", -108);
        goesOn(FOUR_HOUSES + ";", "pbd", -120);
    }

    private static void fifthHouseIsTheLast() {
        Checks.due("four houses", Checks.text(new ThunderOwned(), FOUR_HOUSES), 4);
        Checks.due("five houses", Checks.text(new ThunderOwned(), FIVE_HOUSES), 5);
        Checks.due("a sixth one's ;", Checks.text(new ThunderOwned(), FIVE_HOUSES + ";p00"), -122);
        goesOn(FIVE_HOUSES, "!", -123);
    }

    private static void stoneIsDueBehindItsMark() {
        goesOn("t2;b00!", DIGITS_OF_STONES, 1);
    }

    private static void stonesAreOneToFour() {
        goesOn("t2;b00!1", DIGITS_OF_STONES, 1);
        goesOn("t2;b00!999", DIGITS_OF_STONES, 1);
        goesOn("t2;b00!9999", "", 0);
        Checks.due("none", Checks.parish("t2;b00").many(1), 0);
        Checks.due("one", Checks.parish("t2;b00!1").many(1), 1);
        Checks.due("four", Checks.parish("t2;b00!1111").many(1), 4);
    }

    private static void stonesBehindFiveHouses() {
        goesOn(FIVE_HOUSES + "!", DIGITS_OF_STONES, 5);
        goesOn(FIVE_HOUSES + "!1991", "", 0);
    }

    private static void textThatJustEndsTooSoon() {
        String whole = FIVE_HOUSES + "!1991";
        for (int n = 0; n <= whole.length(); n++) {
            boolean mayEnd = n >= 6 && n <= 22 && n % 4 == 2 || n >= 24;
            int due = mayEnd ? Math.min(5, (n - 2) / 4) : -100 - n;
            Checks.due(n + " codes", Checks.text(new ThunderOwned(), whole.substring(0, n)), due);
        }
    }

    private static void longestText() {
        ThunderOwned x = new ThunderOwned();
        Checks.due("27 codes", Checks.text(x, FIVE_HOUSES + "!1991"), 5);
        Checks.due("the last house", x.ofHouse(4, 1), 9);
        Checks.due("the last stone", x.ofStone(3, 0), 1);
        Checks.due("28 codes", Checks.text(x, FIVE_HOUSES + "!19911"), -127);
    }

    private static void codesAreNotCutOnTheWay() {
        String text = "t2;b53!4";
        for (int place = 0; place < text.length(); place++) {
            for (int more : new int[] {256, -256, 65536, -65536}) {
                ThunderOwned x = new ThunderOwned();
                int[] codes = text.chars().toArray();
                codes[place] += more;
                Checks.row(x, 2, 2, codes);
                Checks.due("int " + codes[place], x.parish(2, 2, 0, codes.length), -100 - place);
            }
        }
    }

    private static void byteCodesAreCutAsTheyCome() {
        ThunderOwned x = new ThunderOwned();
        Checks.row(x, 2, 0, 't' + 256, '2' - 256, ';' + 65536, 'b', '5', '3');
        Checks.due("bytes", x.parish(2, 0, 0, 6), 1);
        Checks.row(x, 2, 1, 't' + 65536, '2' - 65536, ';', 'b', '5', '3');
        Checks.due("shorts", x.parish(2, 1, 0, 6), 1);
        x.put(2, 0, 't' + 256);
        Checks.due("a short that stays another", x.parish(2, 1, 0, 6), -100);
    }

    private static void firstFaultIsCountedFromTheText() {
        ThunderOwned x = new ThunderOwned();
        Checks.row(x, 0, 0, "xxxt2;b5x".chars().toArray());
        Checks.due("from 3 on", x.parish(0, 0, 3, 6), -105);
        Checks.due("from 3 on, too short", x.parish(0, 0, 3, 5), -105);
        Checks.due("from 4 on", x.parish(0, 0, 4, 5), -100);
    }

    private static void cellsBehindTheTextAreNoPartOfIt() {
        ThunderOwned x = new ThunderOwned();
        Checks.row(x, 0, 0, "t2;b53;x".chars().toArray());
        Checks.due("its first 6", x.parish(0, 0, 0, 6), 1);
        Checks.due("its first 7", x.parish(0, 0, 0, 7), -107);
        Checks.due("all 8", x.parish(0, 0, 0, 8), -107);
    }

    private static void firstFaultChangesNothing() {
        Edges.stopped("a text of acts", x -> x.parish(1, 1, 0, 4), -100, 0);
        Edges.changesOnlyFault("a text without its head", Edges::lived, x -> x.parish(0, 0, 1, 21), -100, 0);
        Edges.changesOnlyFault("a text without its end", Edges::lived, x -> x.parish(0, 0, 0, 17), -117, 0);
    }

    private static void parishOfNoSheet() {
        for (int k : new int[] {-1, 4, Edges.MOST, Edges.LEAST}) {
            Edges.stopped("parish of sheet " + k, x -> x.parish(k, 1, 0, 4), ThunderOwned.UNKNOWN, 0);
            Edges.stopped("and no lane", x -> x.parish(k, 3, -1, -1), ThunderOwned.UNKNOWN, 0);
        }
    }

    private static void parishOfNoLane() {
        for (int lane : new int[] {-1, 3, Edges.MOST, Edges.LEAST}) {
            Edges.stopped("parish of lane " + lane, x -> x.parish(1, lane, 0, 4), ThunderOwned.OUTSIDE, 0);
            Edges.stopped("and of nothing", x -> x.parish(3, lane, -1, -1), ThunderOwned.OUTSIDE, 0);
        }
    }

    private static void parishOfAnotherLane() {
        Edges.stopped("shorts as bytes", x -> x.parish(1, 0, 0, 4), -12, 2);
        Edges.stopped("shorts as ints, ahead of SIZE", x -> x.parish(1, 2, 0, -1), -12, 2);
        Edges.stopped("shorts as ints, ahead of INDEX", x -> x.parish(1, 2, 5, 1), -12, 2);
        Edges.changesOnlyFault("bytes as shorts", Edges::lived, x -> x.parish(0, 1, 0, 22), -12, 2);
        Edges.changesOnlyFault("ints as bytes", Edges::lived, x -> x.parish(2, 0, 0, 5), -12, 2);
    }

    private static void parishOfNothing() {
        for (int lane = 0; lane < 3; lane++) {
            int as = lane;
            Edges.stopped("nothing, as lane " + lane, x -> x.parish(3, as, 0, 0), -11, 1);
            Edges.stopped("ahead of SIZE", x -> x.parish(3, as, 0, -1), -11, 1);
            Edges.stopped("ahead of INDEX", x -> x.parish(3, as, -1, 0), -11, 1);
        }
    }

    private static void parishOfALengthBelowZero() {
        Edges.stopped("n -1", x -> x.parish(1, 1, 0, -1), -14, 4);
        Edges.stopped("n far below", x -> x.parish(1, 1, 0, Edges.LEAST), -14, 4);
        Edges.stopped("ahead of INDEX below", x -> x.parish(1, 1, -1, -1), -14, 4);
        Edges.stopped("ahead of INDEX above", x -> x.parish(1, 1, 5, -1), -14, 4);
    }

    private static void parishOfCellsThatAreNotThere() {
        Edges.stopped("one too many", x -> x.parish(1, 1, 0, 5), -13, 3);
        Edges.stopped("one too far on", x -> x.parish(1, 1, 1, 4), -13, 3);
        Edges.stopped("from -1 on", x -> x.parish(1, 1, -1, 4), -13, 3);
        Edges.stopped("from far below on", x -> x.parish(1, 1, Edges.LEAST, 4), -13, 3);
        Edges.stopped("one from the end on", x -> x.parish(1, 1, 4, 1), -13, 3);
        Edges.stopped("as many as can be told", x -> x.parish(1, 1, 0, Edges.MOST), -13, 3);
        Edges.stopped("so many that they wrap", x -> x.parish(1, 1, 1, Edges.MOST), -13, 3);
        Edges.stopped("so far on that it wraps", x -> x.parish(1, 1, Edges.MOST, 1), -13, 3);
        Edges.stopped("both", x -> x.parish(1, 1, Edges.MOST, Edges.MOST), -13, 3);
    }

    private static void parishOfNoCells() {
        Edges.stopped("none from 0 on", x -> x.parish(1, 1, 0, 0), -100, 0);
        Edges.stopped("none from the end on", x -> x.parish(1, 1, 4, 0), -100, 0);
        Edges.stopped("none from behind the end on", x -> x.parish(1, 1, 5, 0), -13, 3);
        Edges.stopped("none from -1 on", x -> x.parish(1, 1, -1, 0), -13, 3);
        Edges.stopped("none from far on", x -> x.parish(1, 1, Edges.MOST, 0), -13, 3);
    }

    private static void parishOfARowWithoutCells() {
        ThunderOwned x = new ThunderOwned();
        Checks.due("a row of none", x.sheet(0, 0, 0), 1);
        Checks.due("all of it", x.parish(0, 0, 0, 0), -100);
        Checks.due("one of it", x.parish(0, 0, 0, 1), -13);
        Checks.due("none from 1 on", x.parish(0, 0, 1, 0), -13);
    }

    private static void takenTextMakesAllAnew() {
        ThunderOwned x = Edges.full();
        Checks.due("the same text again", x.parish(0, 0, 0, 22), 4);
        Checks.due("its fault", x.fault(), 0);
        for (int h = 0; h < 4; h++) {
            Checks.due("house " + h + " has not owned", x.ofHouse(h, 4), 0);
            Checks.due("house " + h + " lost no hat", x.ofHouse(h, 6), 0);
            Checks.due("sleep of house " + h, x.ofHouse(h, 2), new int[] {5, 2, 9, 0}[h]);
        }
        for (int s = 0; s < 3; s++) {
            Checks.due("stone " + s + " is not laid", x.ofStone(s, 1), 0);
        }
        Checks.due("no night went by", x.many(2), 0);
        Checks.due("no hats are lost", x.many(3), 0);
        Checks.due("no readings", x.many(4), 0);
        Checks.due("it hangs over house 0", x.many(5), 0);
        Checks.due("room for a reading", x.reading(0, 0), 0);
    }

    private static void takenTextLeavesSheetsAndTrace() {
        ThunderOwned x = Edges.lived();
        int trace = x.trace();
        x.parish(0, 0, 0, 22);
        Checks.due("trace", x.trace(), trace);
        Checks.due("the sheet of the text", x.cell(0, 21, 0), '6');
        Checks.due("another one", x.cell(2, 4, 2), -70000);
        Checks.due("one that has nothing", x.lose(3), 0);
    }

    private static void weightOfNoWrong() {
        ThunderOwned x = Checks.parish("t1;p00;b00;d00");
        Checks.due("plain", x.ofHouse(0, 3), 0);
        Checks.due("brooding", x.ofHouse(1, 3), 1);
        Checks.due("double", x.ofHouse(2, 3), 0);
    }

    private static void weightOfTheGreatestWrong() {
        ThunderOwned x = Checks.parish("t1;p90;b90;d90");
        Checks.due("plain", x.ofHouse(0, 3), 9);
        Checks.due("brooding", x.ofHouse(1, 3), 10);
        Checks.due("double", x.ofHouse(2, 3), 18);
    }

    private static void ranklesAboveZeroAlone() {
        ThunderOwned x = Checks.parish("t1;p00;b00;d00;p10;d10");
        int[] due = {0, 1, 0, 1, 1};
        for (int h = 0; h < 5; h++) {
            Checks.due("house " + h, x.ofHouse(h, 5), due[h]);
            x.own(h);
            Checks.due("house " + h + " owned", x.ofHouse(h, 5), 0);
            Checks.due("house " + h + " has owned", x.ofHouse(h, 4), due[h]);
        }
    }

    private static void voiceOfStonesAlone() {
        ThunderOwned x = Checks.parish("t1;p00!1");
        Checks.due("one stone", x.many(6), 1);
        Checks.due("so it is not quiet", x.quiet(), 1);
        Checks.due("laid", x.lay(0), 0);
        Checks.due("so it is", x.quiet(), 0);
    }

    private static void loudestVoice() {
        Checks.due("five of 18, four of 9", Checks.parish("t1;d90;d90;d90;d90;d90!9999").many(6), 126);
    }

    private static void ofHouseWithoutOne() {
        for (int h : new int[] {-1, 4, 5, Edges.MOST, Edges.LEAST}) {
            Edges.refused("ofHouse(" + h + ", 0)", x -> x.ofHouse(h, 0), ThunderOwned.UNKNOWN);
            Edges.refused("ofHouse(" + h + ", 7)", x -> x.ofHouse(h, 7), ThunderOwned.UNKNOWN);
        }
        Edges.changesNothing("no parish", Edges::bare, x -> x.ofHouse(0, 7), ThunderOwned.UNKNOWN);
        Edges.changesNothing("the last one", Edges::lived, x -> x.ofHouse(3, 6), 1);
    }

    private static void ofHouseOfNoSuchNumber() {
        for (int what : new int[] {-1, 7, Edges.MOST, Edges.LEAST}) {
            Edges.changesNothing("what " + what, Edges::lived, x -> x.ofHouse(0, what), ThunderOwned.OUTSIDE);
        }
    }

    private static void ofStoneWithoutOne() {
        for (int s : new int[] {-1, 3, 4, Edges.MOST, Edges.LEAST}) {
            Edges.refused("ofStone(" + s + ", 0)", x -> x.ofStone(s, 0), ThunderOwned.UNKNOWN);
            Edges.refused("ofStone(" + s + ", 2)", x -> x.ofStone(s, 2), ThunderOwned.UNKNOWN);
        }
        Edges.changesNothing("no parish", Edges::bare, x -> x.ofStone(0, 2), ThunderOwned.UNKNOWN);
        Edges.changesNothing("the last one", Edges::lived, x -> x.ofStone(2, 0), 6);
        Checks.due("houses, but no stones", Checks.parish("t1;p00").ofStone(0, 0), ThunderOwned.UNKNOWN);
    }

    private static void ofStoneOfNoSuchNumber() {
        for (int what : new int[] {-1, 2, Edges.MOST, Edges.LEAST}) {
            Edges.changesNothing("what " + what, Edges::lived, x -> x.ofStone(0, what), ThunderOwned.OUTSIDE);
        }
    }

    private static void sleepWithoutAHouse() {
        for (int h : new int[] {-1, 4, 5, Edges.MOST, Edges.LEAST}) {
            Edges.refused("sleep(" + h + ", 5)", x -> x.sleep(h, 5), ThunderOwned.UNKNOWN);
            Edges.refused("sleep(" + h + ", 10)", x -> x.sleep(h, 10), ThunderOwned.UNKNOWN);
        }
        Edges.changesNothing("no parish", Edges::bare, x -> x.sleep(0, 10), ThunderOwned.UNKNOWN);
    }

    private static void sleepOfZeroToNine() {
        for (int v : new int[] {-1, 10, Edges.MOST, Edges.LEAST}) {
            Edges.changesNothing("sleep(0, " + v + ")", Edges::lived, x -> x.sleep(0, v), ThunderOwned.OUTSIDE);
        }
        ThunderOwned x = Edges.lived();
        Checks.due("the least", x.sleep(0, 0), 3);
        Checks.due("it is", x.ofHouse(0, 2), 0);
        Checks.due("the most", x.sleep(0, 9), 0);
        Checks.due("it is", x.ofHouse(0, 2), 9);
        Checks.due("the other one's", x.ofHouse(2, 2), 7);
    }

    /** Behind the start of a TEXT each code that a byte can be: those with which it goes on, and what is answered. */
    private static void goesOn(String start, String codes, int answer) {
        for (int code = -128; code < 128; code++) {
            ThunderOwned x = new ThunderOwned();
            int[] numbers = (start + " ").chars().toArray();
            numbers[start.length()] = code;
            Checks.row(x, 0, 0, numbers);
            int due = codes.indexOf(code) >= 0 ? answer : -100 - start.length();
            Checks.due(start + " and " + code, x.parish(0, 0, 0, numbers.length), due);
        }
    }
}
