import java.util.Arrays;

/** Boundary cases of promises 6 to 10, and of OWNS, NIGHT, DAY and FIRST WRONG: a test for each. */
public final class NightsEdgesTest {
    private static final String WHOLE = "t1;p11;p22;p33;p44;p55!1234";
    /** It always HANGS over HOUSE 0, which loses a HAT each night, and is never QUIET. */
    private static final String NEVER_QUIET = "t2;p00;p11";

    public static void main(String[] args) {
        ownWithoutAHouse();
        hatEachTime();
        hatsOfAWholeLife();
        ownOfTheLeastWeight();
        layWithoutAStone();
        layOfOneThatIsLaid();
        layOfTheLast();
        nightsTooFewOrTooMany();
        nightsWithoutAParish();
        oneNightAndSixty();
        quietNights();
        nightsThatBecomeQuiet();
        sleepStaysAtZero();
        ownsAsSleepIsZero();
        ownsWhereItHangsAlone();
        ownsAgainWhereItHangs();
        stoneInTheSameNight();
        noStoneWhileOneRankles();
        heaviestStoneTheFirstOfSeveral();
        noStoneToLay();
        hangsStepOnBehindTheLast();
        dayOfNoSheet();
        dayOfNoLane();
        dayOfTooFewOrTooMany();
        dayOfNoSuchNumber();
        dayOfAnotherLane();
        dayOfNothing();
        dayOfCellsThatAreNotThere();
        dayWithoutAParish();
        dayOfNoSuchAct();
        dayLooksAtItsOwnCells();
        emptyDay();
        longestDay();
        actsOfAllHousesAndStones();
        actsOfNoSuchHouseOrStone();
        actOfAStoneThatIsLaid();
        firstWrongIsTheFirst();
        firstWrongInPlaceOfAnswers();
        sleepOfNoHouseBehindADay();
        dayChangesNothing();
        hatsOfTheDayAlone();
        quietNightAsAnAct();
        behindTooFewOrTooMany();
        behindOfNoSuchNumber();
        behindWithoutAParish();
        behindNoneAndSixty();
        Checks.end();
    }

    private static void ownWithoutAHouse() {
        for (int h : new int[] {-1, 4, 5, Edges.MOST, Edges.LEAST}) {
            Edges.changesNothing("own(" + h + ")", Edges::lived, x -> x.own(h), ThunderOwned.UNKNOWN);
        }
        Edges.changesNothing("no parish", Edges::bare, x -> x.own(0), ThunderOwned.UNKNOWN);
    }

    private static void hatEachTime() {
        ThunderOwned x = Checks.parish("t1;p00;p90");
        for (int n = 1; n <= 3; n++) {
            Checks.due("without a wrong", x.own(0), 0);
            Checks.due("its hats", x.ofHouse(0, 6), n);
        }
        Checks.due("with one", x.own(1), 1);
        Checks.due("no hat", x.ofHouse(1, 6), 0);
        for (int n = 1; n <= 3; n++) {
            Checks.due("with one that is owned", x.own(1), 0);
            Checks.due("its hats", x.ofHouse(1, 6), n);
        }
        Checks.due("hats of both", x.many(3), 6);
    }

    /** As many calls as an object is used for, in which as many nights go by and hats are lost as ever can. */
    private static void hatsOfAWholeLife() {
        ThunderOwned x = Checks.parish(NEVER_QUIET);
        int calls = 2 + NEVER_QUIET.length();
        int nights = 0;
        for (; calls < 510; calls++) {
            nights += 60;
            Checks.due("night(60) again", x.night(60), 1);
        }
        Checks.due("nights of a life", x.many(2), nights);
        Checks.due("hats of a life", x.many(3), nights);
    }

    private static void ownOfTheLeastWeight() {
        ThunderOwned x = Checks.parish("t1;p10;b00;d00");
        Checks.due("1 of a plain one", x.own(0), 1);
        Checks.due("1 of a brooding one", x.own(1), 1);
        Checks.due("0 of a double one", x.own(2), 0);
    }

    private static void layWithoutAStone() {
        for (int s : new int[] {-1, 3, 4, Edges.MOST, Edges.LEAST}) {
            Edges.changesNothing("lay(" + s + ")", Edges::lived, x -> x.lay(s), ThunderOwned.UNKNOWN);
        }
        Edges.changesNothing("no parish", Edges::bare, x -> x.lay(0), ThunderOwned.UNKNOWN);
        Checks.due("houses, but no stones", Checks.parish("t1;p11").lay(0), ThunderOwned.UNKNOWN);
    }

    private static void layOfOneThatIsLaid() {
        Edges.changesNothing("laid by lay", Edges::lived, x -> x.lay(1), ThunderOwned.STATE);
        ThunderOwned x = Checks.parish("t1;p00!12");
        Checks.due("a night lays stone 1", x.night(1), 1);
        Checks.due("laid by a night", x.lay(1), ThunderOwned.STATE);
        Checks.due("the other one", x.lay(0), 0);
    }

    private static void layOfTheLast() {
        ThunderOwned x = Checks.parish("t1;p00!1239");
        Checks.due("lay(3)", x.lay(3), 6);
        Checks.due("lay(0)", x.lay(0), 5);
        Checks.due("lay(2)", x.lay(2), 2);
        Checks.due("lay(1)", x.lay(1), 0);
    }

    private static void nightsTooFewOrTooMany() {
        for (int n : new int[] {0, -1, 61, Edges.MOST, Edges.LEAST}) {
            Edges.changesNothing("night(" + n + ")", Edges::lived, x -> x.night(n), ThunderOwned.OUTSIDE);
            Edges.changesNothing("ahead of STATE", Edges::bare, x -> x.night(n), ThunderOwned.OUTSIDE);
        }
    }

    private static void nightsWithoutAParish() {
        Edges.changesNothing("night(1)", Edges::bare, x -> x.night(1), ThunderOwned.STATE);
        Edges.changesNothing("night(60)", Edges::bare, x -> x.night(60), ThunderOwned.STATE);
    }

    private static void oneNightAndSixty() {
        ThunderOwned x = Checks.parish(NEVER_QUIET);
        Checks.due("night(1)", x.night(1), 1);
        Checks.due("nights", x.many(2), 1);
        Checks.due("hats", x.many(3), 1);
        Checks.due("night(60)", x.night(60), 1);
        Checks.due("nights", x.many(2), 61);
        Checks.due("hats", x.many(3), 61);
    }

    private static void quietNights() {
        ThunderOwned x = Checks.parish("t1;p00;d05");
        Checks.due("night(1)", x.night(1), 0);
        Checks.due("it hangs over house 0", x.many(5), 0);
        Checks.due("night(60)", x.night(60), 0);
        Checks.due("they are counted", x.many(2), 61);
        Checks.due("no hat, with SLEEP 0", x.many(3), 0);
        Checks.due("sleep stays", x.ofHouse(1, 2), 5);
        Checks.due("it hangs where it hung", x.many(5), 0);
    }

    private static void nightsThatBecomeQuiet() {
        ThunderOwned x = Checks.parish("t1;p11;p05");
        Checks.due("night(4)", x.night(4), 0);
        Checks.due("sleep of the first alone", x.ofHouse(1, 2), 4);
        Checks.due("it hangs as behind the first", x.many(5), 1);
        Checks.due("no hat", x.many(3), 0);
        Checks.due("all are counted", x.many(2), 4);
    }

    private static void sleepStaysAtZero() {
        ThunderOwned x = Checks.parish("t1;p90;p90;p91;p99");
        x.night(1);
        int[] due = {0, 0, 0, 8};
        for (int h = 0; h < 4; h++) {
            Checks.due("sleep of " + h, x.ofHouse(h, 2), due[h]);
        }
    }

    private static void ownsAsSleepIsZero() {
        Checks.due("SLEEP 0", Checks.parish("t1;p30;p59").night(1), 5);
        Checks.due("SLEEP 1", Checks.parish("t1;p31;p59").night(1), 5);
        Checks.due("SLEEP 2", Checks.parish("t1;p32;p59").night(1), 8);
        Checks.due("SLEEP 9, eighth night", Checks.parish("t1;p39").night(8), 3);
        Checks.due("SLEEP 9, ninth night", Checks.parish("t1;p39").night(9), 0);
    }

    private static void ownsWhereItHangsAlone() {
        ThunderOwned x = Checks.parish("t1;p39;p50;p70");
        Checks.due("nobody", x.night(1), 15);
        Checks.due("no hat", x.many(3), 0);
        Checks.due("house 1", x.night(1), 10);
        Checks.due("house 2", x.night(1), 3);
    }

    private static void ownsAgainWhereItHangs() {
        ThunderOwned x = Checks.parish("t1;p30!9999");
        Checks.due("it rankled", x.night(1), 27);
        Checks.due("no hat", x.many(3), 0);
        x.night(1);
        Checks.due("a hat", x.many(3), 1);
        Checks.due("the last stone", x.night(2), 0);
        Checks.due("hats until it was quiet", x.many(3), 3);
    }

    private static void stoneInTheSameNight() {
        ThunderOwned x = Checks.parish("t1;p31!5");
        Checks.due("house and stone", x.night(1), 0);
        Checks.due("the stone", x.ofStone(0, 1), 1);
    }

    private static void noStoneWhileOneRankles() {
        ThunderOwned x = Checks.parish("t1;p30;b02!5");
        Checks.due("house 1 still rankles", x.night(1), 6);
        Checks.due("the stone", x.ofStone(0, 1), 0);
        Checks.due("then both", x.night(1), 0);
    }

    private static void heaviestStoneTheFirstOfSeveral() {
        ThunderOwned x = Checks.parish("t1;p09!1919");
        int[] order = {1, 3, 0, 2};
        for (int n = 0; n < 4; n++) {
            x.night(1);
            for (int s = 0; s < 4; s++) {
                boolean laid = Arrays.stream(order, 0, n + 1).anyMatch(Integer.valueOf(s)::equals);
                Checks.due("night " + n + ", stone " + s, x.ofStone(s, 1), laid ? 1 : 0);
            }
        }
        Checks.due("the heaviest that is left", laidFirst("t1;p09!9981", 0, 1), 2);
        Checks.due("the last", laidFirst("t1;p09!1112", 9, 9), 3);
        Checks.due("the first of four alike", laidFirst("t1;p09!5555", 9, 9), 0);
    }

    /** Which STONE a night lays, where two may be LAID already (9: none). */
    private static int laidFirst(String text, int one, int other) {
        ThunderOwned x = Checks.parish(text);
        x.lay(one);
        x.lay(other);
        x.night(1);
        for (int s = 0; s < 4; s++) {
            if (s != one && s != other && x.ofStone(s, 1) == 1) {
                return s;
            }
        }
        return -1;
    }

    private static void noStoneToLay() {
        ThunderOwned x = Checks.parish("t1;p31;p00");
        Checks.due("no stone at all", x.night(1), 0);
        Checks.due("it hangs on", x.many(5), 1);
        ThunderOwned laid = Checks.parish("t1;p31;p00!4");
        laid.lay(0);
        Checks.due("all are laid", laid.night(1), 0);
        Checks.due("it hangs on", laid.many(5), 1);
    }

    private static void hangsStepOnBehindTheLast() {
        String houses = "";
        for (int count = 1; count <= 5; count++) {
            houses += ";p99";
            for (int step = 1; step <= 4; step++) {
                ThunderOwned x = Checks.parish("t" + step + houses);
                int due = 0;
                for (int n = 1; n <= 8; n++) {
                    x.night(1);
                    due += step;
                    while (due >= count) {
                        due -= count;
                    }
                    Checks.due(count + " houses, step " + step + ", night " + n, x.many(5), due);
                }
            }
        }
    }

    private static void dayOfNoSheet() {
        for (int k : new int[] {-1, 4, Edges.MOST, Edges.LEAST}) {
            Edges.stopped("day of sheet " + k, x -> x.day(k, 1, 0, 1, 0), ThunderOwned.UNKNOWN, 0);
            Edges.stopped("ahead of OUTSIDE", x -> x.day(k, 3, -1, 21, 5), ThunderOwned.UNKNOWN, 0);
        }
    }

    private static void dayOfNoLane() {
        for (int lane : new int[] {-1, 3, Edges.MOST, Edges.LEAST}) {
            Edges.stopped("day of lane " + lane, x -> x.day(1, lane, 0, 1, 0), ThunderOwned.OUTSIDE, 0);
            Edges.stopped("ahead of NULL", x -> x.day(3, lane, 0, 1, 0), ThunderOwned.OUTSIDE, 0);
        }
    }

    private static void dayOfTooFewOrTooMany() {
        for (int n : new int[] {-1, 21, Edges.MOST, Edges.LEAST}) {
            Edges.stopped("day of n " + n, x -> x.day(1, 1, 0, n, 0), ThunderOwned.OUTSIDE, 0);
            Edges.stopped("ahead of NULL", x -> x.day(3, 1, 0, n, 0), ThunderOwned.OUTSIDE, 0);
            Edges.stopped("ahead of CAST", x -> x.day(1, 2, 0, n, 0), ThunderOwned.OUTSIDE, 0);
        }
        ThunderOwned x = Checks.parish(NEVER_QUIET);
        Checks.row(x, 1, 2, new int[21]);
        Checks.due("21, though the cells are there", x.day(1, 2, 0, 21, 0), ThunderOwned.OUTSIDE);
    }

    private static void dayOfNoSuchNumber() {
        for (int what : new int[] {-1, 5, 9, 15, Edges.MOST, Edges.LEAST}) {
            Edges.stopped("day, what " + what, x -> x.day(1, 1, 0, 1, what), ThunderOwned.OUTSIDE, 0);
            Edges.stopped("ahead of NULL", x -> x.day(3, 1, 0, 1, what), ThunderOwned.OUTSIDE, 0);
        }
        int[] asked = {0, 1, 2, 3, 4, 10, 11, 12, 13, 14};
        int[] due = {15 + 10, ThunderOwned.NONE, 0, 31, 0, 1, 2, 3, 4, 5};
        for (int i = 0; i < asked.length; i++) {
            Checks.due("what " + asked[i], Checks.day(Checks.parish(WHOLE), asked[i]), due[i]);
        }
    }

    private static void dayOfAnotherLane() {
        Edges.stopped("shorts as bytes", x -> x.day(1, 0, 0, 1, 0), -12, 2);
        Edges.stopped("shorts as ints", x -> x.day(1, 2, 0, 0, 0), -12, 2);
        Edges.stopped("ahead of INDEX", x -> x.day(1, 2, -1, 5, 0), -12, 2);
    }

    private static void dayOfNothing() {
        for (int lane = 0; lane < 3; lane++) {
            int as = lane;
            Edges.stopped("nothing, as lane " + lane, x -> x.day(3, as, 0, 0, 0), -11, 1);
            Edges.stopped("ahead of INDEX", x -> x.day(3, as, -1, 20, 0), -11, 1);
        }
    }

    private static void dayOfCellsThatAreNotThere() {
        Edges.stopped("one too many", x -> x.day(1, 1, 0, 5, 0), -13, 3);
        Edges.stopped("one too far on", x -> x.day(1, 1, 4, 1, 0), -13, 3);
        Edges.stopped("from -1 on", x -> x.day(1, 1, -1, 1, 0), -13, 3);
        Edges.stopped("from far below on", x -> x.day(1, 1, Edges.LEAST, 1, 0), -13, 3);
        Edges.stopped("so far on that it wraps", x -> x.day(1, 1, Edges.MOST, 20, 0), -13, 3);
        Edges.stopped("none from behind the end on", x -> x.day(1, 1, 5, 0, 0), -13, 3);
        Edges.stopped("none from -1 on", x -> x.day(1, 1, -1, 0, 0), -13, 3);
    }

    private static void dayWithoutAParish() {
        Edges.changesOnlyFault("a night", Edges::bare, x -> x.day(1, 1, 0, 1, 0), ThunderOwned.STATE, 0);
        Edges.changesOnlyFault("no act", Edges::bare, x -> x.day(1, 1, 4, 0, 1), ThunderOwned.STATE, 0);
        Edges.changesOnlyFault("ahead of an act", Edges::bare, x -> x.day(1, 1, 1, 1, 0), ThunderOwned.STATE, 0);
    }

    private static void dayOfNoSuchAct() {
        Edges.changesOnlyFault("15", Edges::lived, x -> x.day(1, 1, 1, 1, 1), ThunderOwned.OUTSIDE, 0);
        Edges.changesOnlyFault("-1", Edges::lived, x -> x.day(1, 1, 2, 1, 1), ThunderOwned.OUTSIDE, 0);
        Edges.changesOnlyFault("70000", Edges::lived, x -> x.day(2, 2, 0, 4, 0), ThunderOwned.OUTSIDE, 0);
        for (int act : new int[] {-1, 15, 256, Edges.MOST, Edges.LEAST}) {
            ThunderOwned x = Checks.parish("t1;p11");
            Checks.due("ahead of a FIRST WRONG, " + act, Checks.day(x, 1, 4, act), ThunderOwned.OUTSIDE);
            Checks.due("and of what it is less than", Checks.day(x, 0, 4, act), ThunderOwned.OUTSIDE);
        }
    }

    private static void dayLooksAtItsOwnCells() {
        ThunderOwned x = Checks.parish("t1;p11;p20");
        Checks.row(x, 1, 0, 99, 0, 1, 99);
        Checks.due("two in the midst", x.day(1, 0, 1, 2, 0), 0);
        Checks.due("the first of them", x.day(1, 0, 1, 1, 0), 2);
        Checks.due("the second", x.day(1, 0, 2, 1, 0), 1);
        Checks.due("one too many", x.day(1, 0, 1, 3, 0), ThunderOwned.OUTSIDE);
        x.put(1, 2, 4);
        Checks.due("a place from the day's start", x.day(1, 0, 1, 2, 1), 1);
    }

    private static void emptyDay() {
        ThunderOwned x = Edges.lived();
        Checks.due("VOICE", x.day(1, 1, 4, 0, 0), 26);
        Checks.due("FIRST WRONG", x.day(1, 1, 0, 0, 1), ThunderOwned.NONE);
        Checks.due("HATS", x.day(1, 1, 0, 0, 2), 0);
        Checks.due("RANKLE", x.day(1, 1, 0, 0, 3), 5);
        Checks.due("HANGS", x.day(1, 1, 0, 0, 4), 2);
        Checks.due("SLEEP", x.day(1, 1, 0, 0, 12), 7);
    }

    private static void longestDay() {
        ThunderOwned x = Checks.parish(NEVER_QUIET);
        int[] acts = new int[20];
        Arrays.fill(acts, 14);
        Checks.due("20 nights", Checks.day(x, 2, acts), 20);
        acts[19] = 13;
        Checks.due("the last of them can't be", Checks.day(x, 1, acts), 19);
        Checks.due("told of another answer", Checks.day(x, 0, acts), -119);
    }

    private static void actsOfAllHousesAndStones() {
        for (int h = 0; h < 5; h++) {
            ThunderOwned x = Checks.parish(WHOLE);
            Checks.due("house " + h + " owns", Checks.day(x, 3, h), 31 - (1 << h));
            Checks.due("house " + h + " sleeps", Checks.day(x, 10 + h, 5 + h), 9);
            Checks.due("and owns not", Checks.day(x, 3, 5 + h), 31);
        }
        for (int s = 0; s < 4; s++) {
            Checks.due("stone " + s, Checks.day(Checks.parish(WHOLE), 0, 10 + s), 25 - (s + 1));
        }
        Checks.due("a night", Checks.day(Checks.parish(WHOLE), 0, 14), 24);
    }

    private static void actsOfNoSuchHouseOrStone() {
        ThunderOwned x = Checks.parish("t1;p11;p22;p33;p44!123");
        for (int act = 0; act <= 14; act++) {
            boolean wrong = act == 4 || act == 9 || act == 13;
            Checks.due("act " + act, Checks.day(x, 1, act), wrong ? 0 : ThunderOwned.NONE);
        }
        ThunderOwned least = Checks.parish("t1;p11");
        for (int act = 0; act <= 14; act++) {
            boolean right = act == 0 || act == 5 || act == 14;
            Checks.due("of one house, act " + act, Checks.day(least, 1, act), right ? ThunderOwned.NONE : 0);
        }
    }

    private static void actOfAStoneThatIsLaid() {
        Checks.due("in the day", Checks.day(Checks.parish("t1;p11!12"), 1, 11, 10, 11), 2);
        Checks.due("by a night of it", Checks.day(Checks.parish("t1;p11!12"), 1, 14, 11), 1);
        Checks.due("the other one", Checks.day(Checks.parish("t1;p11!12"), 1, 14, 10), ThunderOwned.NONE);
        Checks.due("ahead of it", Checks.day(Edges.lived(), 1, 10, 11), 1);
    }

    private static void firstWrongIsTheFirst() {
        ThunderOwned x = Checks.parish("t1;p11");
        Checks.due("of three", Checks.day(x, 1, 14, 10, 4, 9), 1);
        Checks.due("the very first", Checks.day(x, 1, 9, 14, 0), 0);
        Checks.due("owning again can be", Checks.day(x, 1, 0, 0, 0), ThunderOwned.NONE);
    }

    private static void firstWrongInPlaceOfAnswers() {
        for (int what : new int[] {0, 2, 3, 4, 10, 11, 12, 13, 14}) {
            ThunderOwned x = Checks.parish("t1;p11;p22");
            Checks.due("place 0, what " + what, Checks.day(x, what, 2), -100);
            Checks.due("place 2, what " + what, Checks.day(x, what, 0, 14, 13), -102);
            Checks.due("its fault", x.fault(), 0);
        }
    }

    private static void sleepOfNoHouseBehindADay() {
        ThunderOwned x = Checks.parish("t1;p11;p22");
        Checks.due("of the last", Checks.day(x, 11, 14), 1);
        for (int what = 12; what <= 14; what++) {
            Checks.due("what " + what, Checks.day(x, what, 14), ThunderOwned.NONE);
        }
    }

    private static void dayChangesNothing() {
        for (int what : new int[] {0, 1, 2, 3, 4, 10, 14}) {
            int[] due = {9, ThunderOwned.NONE, 1, 1, 0, 0, 0, 0, 0, 0, 9, 0, 0, 0, ThunderOwned.NONE};
            Edges.changesOnlyFault("a full day, what " + what, NightsEdgesTest::livedWithADay,
                x -> x.day(3, 0, 0, 8, what), due[what], 0);
        }
        Edges.changesOnlyFault("one with a FIRST WRONG", NightsEdgesTest::livedWithADay,
            x -> x.day(3, 0, 0, 9, 0), -108, 0);
    }

    /** SHEET 3 has eight acts that can be, and one that can't. */
    private static ThunderOwned livedWithADay() {
        ThunderOwned x = Edges.lived();
        Checks.row(x, 3, 0, 10, 2, 2, 14, 6, 5, 14, 5, 4);
        x.sleep(0, 9);
        x.own(3);
        x.reading(1, 1);
        Checks.due("a fault ahead", x.put(1, 4, 0), -13);
        return x;
    }

    private static void hatsOfTheDayAlone() {
        ThunderOwned x = Checks.parish("t1;p09;p11");
        x.own(0);
        x.own(0);
        Checks.due("none", Checks.day(x, 2, 1), 0);
        Checks.due("one", Checks.day(x, 2, 0), 1);
        Checks.due("three of two houses", Checks.day(x, 2, 0, 1, 1, 0), 3);
    }

    private static void quietNightAsAnAct() {
        ThunderOwned x = Checks.parish("t1;p10;p05");
        Checks.due("HATS", Checks.day(x, 2, 0, 14), 0);
        Checks.due("HANGS", Checks.day(x, 4, 0, 14), 0);
        Checks.due("SLEEP", Checks.day(x, 11, 0, 14), 5);
    }

    private static void behindTooFewOrTooMany() {
        for (int t : new int[] {-1, 61, Edges.MOST, Edges.LEAST}) {
            Edges.changesNothing("behind(" + t + ", 0)", Edges::lived, x -> x.behind(t, 0), ThunderOwned.OUTSIDE);
            Edges.changesNothing("ahead of STATE", Edges::bare, x -> x.behind(t, 0), ThunderOwned.OUTSIDE);
        }
    }

    private static void behindOfNoSuchNumber() {
        for (int what : new int[] {-1, 3, Edges.MOST, Edges.LEAST}) {
            Edges.changesNothing("behind(0, " + what + ")", Edges::lived, x -> x.behind(0, what), ThunderOwned.OUTSIDE);
            Edges.changesNothing("ahead of STATE", Edges::bare, x -> x.behind(0, what), ThunderOwned.OUTSIDE);
        }
    }

    private static void behindWithoutAParish() {
        for (int what = 0; what < 3; what++) {
            int asked = what;
            Edges.changesNothing("behind(0, " + what + ")", Edges::bare, x -> x.behind(0, asked), ThunderOwned.STATE);
            Edges.changesNothing("behind(60, " + what + ")", Edges::bare, x -> x.behind(60, asked), ThunderOwned.STATE);
        }
    }

    private static void behindNoneAndSixty() {
        Edges.changesNothing("VOICE now", Edges::lived, x -> x.behind(0, 0), 26);
        Edges.changesNothing("HANGS now", Edges::lived, x -> x.behind(0, 1), 2);
        Edges.changesNothing("HATS of none", Edges::lived, x -> x.behind(0, 2), 0);
        Edges.changesNothing("VOICE behind 60", Edges::lived, x -> x.behind(60, 0), 0);
        ThunderOwned x = Checks.parish(NEVER_QUIET);
        Checks.due("HATS of 59", x.behind(59, 2), 59);
        Checks.due("HATS of 60", x.behind(60, 2), 60);
        ThunderOwned never = Checks.parish("t2;p00;p11;p00;p11");
        Checks.due("HANGS behind 59", never.behind(59, 1), 2);
        Checks.due("HANGS behind 60", never.behind(60, 1), 0);
    }
}
