/** Boundary cases of promises 15 to 20, and of READINGS, KINDS, WRONGS, STEPS and ODDS: a test for each. */
public final class ReadingsEdgesTest {
    public static void main(String[] args) {
        readingWithoutAParish();
        readingTooFewOrTooManyNights();
        readingTooQuietOrTooLoud();
        readingsAtTheirRanges();
        readingsAreNumberedFromNoneOn();
        ninthReading();
        outsideAheadOfFull();
        readingOfTheLongestChange();
        readingChangesNothingElse();
        backTooFewOrTooMany();
        backWithoutAParish();
        backOfNone();
        backOfAll();
        backTakesTheLast();
        kindsWithoutAHouse();
        kindsWithoutReadings();
        kindsByNone();
        kindsOfOneThatHasOwned();
        kindsWithoutAWrong();
        wrongsWithoutAHouse();
        wrongsWithoutReadings();
        wrongsByNone();
        wrongsAtTheirEnds();
        wrongsOfOneThatHasOwned();
        stepsWithoutAParish();
        stepsWithoutReadings();
        stepsByNone();
        stepsAtTheirEnds();
        stepsOfOneHouse();
        readingsGoFromNow();
        guessesChangeNothing();
        oddsTooQuietOrTooLoud();
        oddsOfNoSuchNumber();
        oddsWithoutAParish();
        oddsOfAll();
        oddsOfNone();
        oddsInLeastTerms();
        oddsWhereNobodyRankles();
        oddsOfHousesThatRankleAlone();
        oddsChangeNothing();
        Checks.end();
    }

    private static void readingWithoutAParish() {
        Edges.changesNothing("reading(0, 0)", Edges::bare, x -> x.reading(0, 0), ThunderOwned.STATE);
        Edges.changesNothing("ahead of t", Edges::bare, x -> x.reading(61, 0), ThunderOwned.STATE);
        Edges.changesNothing("ahead of v", Edges::bare, x -> x.reading(0, 201), ThunderOwned.STATE);
    }

    private static void readingTooFewOrTooManyNights() {
        for (int t : new int[] {-1, 61, Edges.MOST, Edges.LEAST}) {
            Edges.changesNothing("t " + t, Edges::lived, x -> x.reading(t, 0), ThunderOwned.OUTSIDE);
        }
    }

    private static void readingTooQuietOrTooLoud() {
        for (int v : new int[] {-1, 201, Edges.MOST, Edges.LEAST}) {
            Edges.changesNothing("v " + v, Edges::lived, x -> x.reading(0, v), ThunderOwned.OUTSIDE);
        }
    }

    private static void readingsAtTheirRanges() {
        ThunderOwned x = Checks.parish("t1;p11");
        Checks.due("t 0, v 0", x.reading(0, 0), 0);
        Checks.due("t 60, v 0", x.reading(60, 0), 1);
        Checks.due("t 0, v 200", x.reading(0, 200), 2);
        Checks.due("t 60, v 200", x.reading(60, 200), 3);
    }

    private static void readingsAreNumberedFromNoneOn() {
        ThunderOwned x = Checks.parish("t1;p11");
        for (int r = 0; r < 8; r++) {
            Checks.due("as many ahead of it", x.many(4), r);
            Checks.due("its number", x.reading(0, 1), r);
        }
        Checks.due("all", x.many(4), 8);
        x.back(3);
        Checks.due("numbered by those that are left", x.reading(0, 1), 5);
    }

    private static void ninthReading() {
        Edges.changesNothing("full", Edges::full, x -> x.reading(0, 26), ThunderOwned.FULL);
        ThunderOwned x = Edges.full();
        Checks.due("the last is taken back", x.back(1), 7);
        Checks.due("so there is room for one", x.reading(0, 26), 7);
        Checks.due("and for no more", x.reading(0, 26), ThunderOwned.FULL);
        Checks.due("the eighth counts", x.wrongs(0), 1 << 3);
        x.back(1);
        x.reading(0, 27);
        Checks.due("one that can't be", x.wrongs(0), 0);
    }

    private static void outsideAheadOfFull() {
        Edges.changesNothing("t 61", Edges::full, x -> x.reading(61, 0), ThunderOwned.OUTSIDE);
        Edges.changesNothing("v 201", Edges::full, x -> x.reading(0, 201), ThunderOwned.OUTSIDE);
    }

    private static void readingOfTheLongestChange() {
        // the last stone of four is laid in night 16, whatever the step
        ThunderOwned x = Checks.parish("t1;p19;p19;p19;p19;p19!1111");
        x.reading(15, 1);
        x.reading(16, 0);
        x.reading(60, 0);
        Checks.due("all three are so by any step", x.steps(), 30);
        x.back(3);
        x.reading(16, 1);
        Checks.due("not so", x.steps(), 0);
        x.back(1);
        x.reading(60, 1);
        Checks.due("nor so", x.steps(), 0);
        ThunderOwned never = Checks.parish("t2;p30;p50");
        never.reading(60, 5);
        Checks.due("never quiet by even steps", never.steps(), 20);
        Checks.due("its wrong by that", never.wrongs(1), 1 << 5);
    }

    private static void readingChangesNothingElse() {
        ThunderOwned x = Edges.lived();
        int trace = x.trace();
        x.reading(60, 200);
        Checks.due("VOICE", x.many(6), 26);
        Checks.due("nights", x.many(2), 2);
        Checks.due("trace", x.trace(), trace);
        Checks.due("fault", x.fault(), Edges.FAULT_AHEAD);
    }

    private static void backTooFewOrTooMany() {
        for (int n : new int[] {-1, 3, 8, Edges.MOST, Edges.LEAST}) {
            Edges.changesNothing("back(" + n + ") of 2", Edges::lived, x -> x.back(n), ThunderOwned.OUTSIDE);
        }
        Edges.changesNothing("back(9) of 8", Edges::full, x -> x.back(9), ThunderOwned.OUTSIDE);
    }

    private static void backWithoutAParish() {
        Edges.changesNothing("back(0)", Edges::bare, x -> x.back(0), 0);
        Edges.changesNothing("back(1)", Edges::bare, x -> x.back(1), ThunderOwned.OUTSIDE);
        Edges.changesNothing("back(-1)", Edges::bare, x -> x.back(-1), ThunderOwned.OUTSIDE);
    }

    private static void backOfNone() {
        Edges.changesNothing("back(0) of 2", Edges::lived, x -> x.back(0), 2);
        Edges.changesNothing("back(0) of 8", Edges::full, x -> x.back(0), 8);
    }

    private static void backOfAll() {
        ThunderOwned x = Edges.full();
        Checks.due("back(8) of 8", x.back(8), 0);
        Checks.due("none is left", x.many(4), 0);
        Checks.due("so all can be", x.wrongs(0), 1023);
        Checks.due("one of none", x.back(1), ThunderOwned.OUTSIDE);
    }

    private static void backTakesTheLast() {
        ThunderOwned x = Checks.parish("t1;p34");
        x.reading(0, 3);
        x.reading(0, 4);
        x.reading(0, 5);
        Checks.due("two of three", x.back(2), 1);
        Checks.due("the first is left", x.wrongs(0), 1 << 3);
    }

    private static void kindsWithoutAHouse() {
        for (int h : new int[] {-1, 4, 5, Edges.MOST, Edges.LEAST}) {
            Edges.changesNothing("kinds(" + h + ")", Edges::lived, x -> x.kinds(h), ThunderOwned.UNKNOWN);
        }
        Edges.changesNothing("no parish", Edges::bare, x -> x.kinds(0), ThunderOwned.UNKNOWN);
    }

    private static void kindsWithoutReadings() {
        ThunderOwned x = Checks.parish("t1;p11;b11;d11");
        for (int h = 0; h < 3; h++) {
            Checks.due("kinds(" + h + ")", x.kinds(h), 7);
        }
    }

    private static void kindsByNone() {
        ThunderOwned x = Checks.parish("t1;p31");
        x.reading(0, 5);
        Checks.due("3, 4 or 6, not 5", x.kinds(0), 0);
        x.back(1);
        for (int kind = 0; kind < 3; kind++) {
            int[] loud = {3, 4, 6};
            x.reading(0, loud[kind]);
            Checks.due("kind " + kind, x.kinds(0), 1 << kind);
            x.back(1);
        }
        x.reading(0, 4);
        x.reading(0, 6);
        Checks.due("each READING by another one", x.kinds(0), 0);
    }

    private static void kindsOfOneThatHasOwned() {
        ThunderOwned x = Checks.parish("t1;p31;p20");
        x.own(0);
        x.reading(0, 2);
        Checks.due("it is no matter", x.kinds(0), 7);
        Checks.due("of the other one it is", x.kinds(1), 1);
    }

    private static void kindsWithoutAWrong() {
        ThunderOwned x = Checks.parish("t1;b01");
        x.reading(0, 1);
        Checks.due("brooding alone", x.kinds(0), 2);
        x.back(1);
        x.reading(0, 0);
        Checks.due("plain or double", x.kinds(0), 5);
    }

    private static void wrongsWithoutAHouse() {
        for (int h : new int[] {-1, 4, 5, Edges.MOST, Edges.LEAST}) {
            Edges.changesNothing("wrongs(" + h + ")", Edges::lived, x -> x.wrongs(h), ThunderOwned.UNKNOWN);
        }
        Edges.changesNothing("no parish", Edges::bare, x -> x.wrongs(0), ThunderOwned.UNKNOWN);
    }

    private static void wrongsWithoutReadings() {
        ThunderOwned x = Checks.parish("t1;p01;b91;d51");
        for (int h = 0; h < 3; h++) {
            Checks.due("wrongs(" + h + ")", x.wrongs(h), 1023);
        }
    }

    private static void wrongsByNone() {
        ThunderOwned x = Checks.parish("t1;d31");
        x.reading(0, 7);
        Checks.due("an odd voice of a double one", x.wrongs(0), 0);
        x.back(1);
        x.reading(0, 20);
        Checks.due("more than 9 would be", x.wrongs(0), 0);
    }

    private static void wrongsAtTheirEnds() {
        ThunderOwned x = Checks.parish("t1;p31;b31;d31");
        int[] others = {4 + 6, 3 + 6, 3 + 4};
        int[] least = {0, 1, 0};
        int[] most = {9, 10, 18};
        for (int h = 0; h < 3; h++) {
            x.reading(0, others[h] + least[h]);
            Checks.due("0 of house " + h, x.wrongs(h), 1);
            x.back(1);
            x.reading(0, others[h] + most[h]);
            Checks.due("9 of house " + h, x.wrongs(h), 1 << 9);
            x.back(1);
        }
    }

    private static void wrongsOfOneThatHasOwned() {
        ThunderOwned x = Checks.parish("t1;p31;p20");
        x.own(0);
        x.reading(0, 2);
        Checks.due("any", x.wrongs(0), 1023);
        x.back(1);
        x.reading(0, 3);
        Checks.due("none", x.wrongs(0), 0);
    }

    private static void stepsWithoutAParish() {
        Edges.changesNothing("steps()", Edges::bare, x -> x.steps(), ThunderOwned.STATE);
    }

    private static void stepsWithoutReadings() {
        Checks.due("1 to 4", Checks.parish("t1;p11;p11").steps(), 30);
    }

    private static void stepsByNone() {
        ThunderOwned x = Checks.parish("t1;p10;p20;p30;p40;p50");
        x.reading(1, 15);
        Checks.due("somebody must have owned", x.steps(), 0);
    }

    private static void stepsAtTheirEnds() {
        // 14 behind one night; then the house that is STEP on owns, whose weight is one more than that
        for (int step = 1; step <= 4; step++) {
            ThunderOwned x = Checks.parish("t1;p10;p20;p30;p40;p50");
            x.reading(2, 14 - (step + 1));
            Checks.due("step " + step, x.steps(), 1 << step);
        }
    }

    private static void stepsOfOneHouse() {
        ThunderOwned x = Checks.parish("t3;p13!55");
        x.reading(2, 11);
        x.reading(3, 5);
        x.reading(4, 0);
        Checks.due("all are alike", x.steps(), 30);
    }

    private static void readingsGoFromNow() {
        ThunderOwned x = Checks.parish("t1;p59;p22!4");
        x.reading(0, 11);
        Checks.due("as it was read", x.wrongs(0), 1 << 5);
        x.lay(0);
        Checks.due("a stone less", x.wrongs(0), 1 << 9);
        x.own(1);
        Checks.due("and a house less", x.wrongs(0), 0);
    }

    private static void guessesChangeNothing() {
        for (int h = 0; h < 4; h++) {
            int of = h;
            int[] kinds = {1, 7, 4, 5};
            int[] wrongs = {8, 1023, 32, 1};
            Edges.changesNothing("kinds(" + h + ")", Edges::lived, x -> x.kinds(of), kinds[h]);
            Edges.changesNothing("wrongs(" + h + ")", Edges::lived, x -> x.wrongs(of), wrongs[h]);
        }
        Edges.changesNothing("steps()", Edges::lived, x -> x.steps(), 30);
    }

    private static void oddsTooQuietOrTooLoud() {
        for (int v : new int[] {-1, 91, Edges.MOST, Edges.LEAST}) {
            Edges.refused("odds(" + v + ", 0)", x -> x.odds(v, 0), ThunderOwned.LOST);
            Edges.refused("odds(" + v + ", 1)", x -> x.odds(v, 1), ThunderOwned.LOST);
        }
    }

    private static void oddsOfNoSuchNumber() {
        for (int which : new int[] {-1, 2, Edges.MOST, Edges.LEAST}) {
            Edges.refused("odds(0, " + which + ")", x -> x.odds(0, which), ThunderOwned.LOST);
        }
    }

    private static void oddsWithoutAParish() {
        Edges.changesNothing("odds(0, 0)", Edges::bare, x -> x.odds(0, 0), ThunderOwned.LOST);
        Edges.changesNothing("odds(90, 1)", Edges::bare, x -> x.odds(90, 1), ThunderOwned.LOST);
    }

    private static void oddsOfAll() {
        ThunderOwned x = Checks.parish("t1;p10;b90;d50");
        share(x, 0, 1, 1);
        share(Checks.parish("t1;d90;d90;d90;d90;d90"), 90, 1, 32);
        share(x, 21, 1, 8);
    }

    private static void oddsOfNone() {
        share(Checks.parish("t1;p10;b90;d50"), 22, 0, 1);
        share(Checks.parish("t1;p90;d90;d90;d90;d90"), 90, 0, 1);
    }

    private static void oddsInLeastTerms() {
        ThunderOwned x = Checks.parish("t1;p10;p20;p40;p80");
        int[] upper = {1, 15, 7, 13, 3, 11, 5, 9, 1, 7, 3, 5, 1, 3, 1, 1, 0};
        int[] lower = {1, 16, 8, 16, 4, 16, 8, 16, 2, 16, 8, 16, 4, 16, 8, 16, 1};
        for (int v = 0; v <= 16; v++) {
            share(x, v, upper[v], lower[v]);
        }
    }

    private static void oddsWhereNobodyRankles() {
        ThunderOwned x = Checks.parish("t1;p09;d09!9");
        share(x, 0, 1, 1);
        share(x, 1, 0, 1);
    }

    private static void oddsOfHousesThatRankleAlone() {
        ThunderOwned x = Checks.parish("t1;p30;p00;p30!3");
        share(x, 3, 3, 4);
        x.own(2);
        share(x, 3, 1, 2);
        share(x, 4, 0, 1);
    }

    private static void oddsChangeNothing() {
        Edges.changesNothing("the upper number", Edges::lived, x -> x.odds(3, 0), 3);
        Edges.changesNothing("the lower number", Edges::lived, x -> x.odds(3, 1), 4);
    }

    private static void share(ThunderOwned x, int v, long upper, long lower) {
        Checks.due("upper of " + v, x.odds(v, 0), upper);
        Checks.due("lower of " + v, x.odds(v, 1), lower);
    }
}
