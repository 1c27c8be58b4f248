/** Promises 15 to 20: readings, what may have been by them, odds. */
public final class ReadingsTest {
    public static void main(String[] args) {
        readings();
        takenBack();
        kindsByReadings();
        wrongsByReadings();
        stepsByReadings();
        readingsGoFromNow();
        oddsOfClaps();
        Checks.end();
    }

    private static void readings() {
        ThunderOwned none = new ThunderOwned();
        Checks.due("without a parish", none.reading(61, 0), ThunderOwned.STATE);
        ThunderOwned x = Checks.parish("t1;p34");
        Checks.due("t 61", x.reading(61, 0), ThunderOwned.OUTSIDE);
        Checks.due("t -1", x.reading(-1, 0), ThunderOwned.OUTSIDE);
        Checks.due("v 201", x.reading(0, 201), ThunderOwned.OUTSIDE);
        Checks.due("v -1", x.reading(0, -1), ThunderOwned.OUTSIDE);
        for (int r = 0; r < 8; r++) {
            Checks.due("reading " + r, x.reading(r % 2 * 60, r % 2 * 200), r);
            Checks.due("many of them", x.many(4), r + 1);
        }
        Checks.due("full", x.reading(0, 0), ThunderOwned.FULL);
        Checks.due("outside ahead of full", x.reading(0, 201), ThunderOwned.OUTSIDE);
        Checks.due("many", x.many(4), 8);
        Checks.due("by all eight", x.wrongs(0), 0);
        Checks.due("by the first", x.back(7) == 1 ? x.wrongs(0) : -100, 1);
    }

    private static void takenBack() {
        ThunderOwned x = Checks.parish("t1;p34");
        Checks.due("none of none", x.back(0), 0);
        Checks.due("one of none", x.back(1), ThunderOwned.OUTSIDE);
        x.reading(0, 3);
        x.reading(0, 4);
        x.reading(0, 5);
        Checks.due("contradicting", x.wrongs(0), 0);
        Checks.due("-1", x.back(-1), ThunderOwned.OUTSIDE);
        Checks.due("4 of 3", x.back(4), ThunderOwned.OUTSIDE);
        Checks.due("0 of 3", x.back(0), 3);
        Checks.due("the last 2", x.back(2), 1);
        Checks.due("the first is left", x.wrongs(0), 1 << 3);
        Checks.due("its number anew", x.reading(0, 3), 1);
        Checks.due("all", x.back(2), 0);
        Checks.due("many", x.many(4), 0);
        Checks.due("free again", x.wrongs(0), 1023);
    }

    private static void kindsByReadings() {
        ThunderOwned x = Checks.parish("t1;p25;b13!4");
        Checks.due("without readings", x.kinds(0), 7);
        Checks.due("kinds(2)", x.kinds(2), ThunderOwned.UNKNOWN);
        Checks.due("kinds(-1)", x.kinds(-1), ThunderOwned.UNKNOWN);
        Checks.due("without a parish", new ThunderOwned().kinds(0), ThunderOwned.UNKNOWN);
        x.reading(0, 9);
        Checks.due("brooding by 3 and 2 and 4", x.kinds(0), 2);
        Checks.due("the other alone could not", x.kinds(1), 0);
        x.back(1);
        x.reading(0, 8);
        Checks.due("plain", x.kinds(0), 1);
        Checks.due("brooding or double", x.kinds(1), 6);
        Checks.due("kind is as before", x.ofHouse(0, 0), 0);
    }

    private static void wrongsByReadings() {
        ThunderOwned x = Checks.parish("t1;d25;b13!4");
        Checks.due("without readings", x.wrongs(0), 1023);
        Checks.due("wrongs(2)", x.wrongs(2), ThunderOwned.UNKNOWN);
        Checks.due("wrongs(-1)", x.wrongs(-1), ThunderOwned.UNKNOWN);
        Checks.due("without a parish", new ThunderOwned().wrongs(0), ThunderOwned.UNKNOWN);
        x.reading(0, 24);
        Checks.due("9 of a double one", x.wrongs(0), 1 << 9);
        x.reading(60, 1);
        Checks.due("it can't be", x.wrongs(0), 0);
        x.back(2);
        x.reading(60, 0);
        Checks.due("quiet at last by all", x.wrongs(0), 1023);
        x.own(0);
        x.reading(0, 6);
        Checks.due("owned, so by any", x.wrongs(0), 1023);
        Checks.due("the other one by 1 alone", x.wrongs(1), 2);
        Checks.due("wrong is as before", x.ofHouse(0, 1), 2);
    }

    private static void stepsByReadings() {
        Checks.due("without a parish", new ThunderOwned().steps(), ThunderOwned.STATE);
        ThunderOwned x = Checks.parish("t1;p10;p20;p30;p40;p50");
        Checks.due("without readings", x.steps(), 30);
        x.reading(1, 14);
        Checks.due("the first by any", x.steps(), 30);
        x.reading(2, 11);
        Checks.due("the second by 2", x.steps(), 4);
        x.back(1);
        x.reading(5, 0);
        Checks.due("all in five by any", x.steps(), 30);
        Checks.due("and the behind is as before", x.behind(2, 0), 12);
    }

    private static void readingsGoFromNow() {
        ThunderOwned x = Checks.parish("t1;p59;p22");
        x.reading(0, 7);
        Checks.due("ahead of owning", x.wrongs(0), 1 << 5);
        x.own(1);
        Checks.due("behind owning", x.wrongs(0), 1 << 7);
    }

    private static void oddsOfClaps() {
        ThunderOwned none = new ThunderOwned();
        Checks.due("without a parish", none.odds(0, 0), ThunderOwned.LOST);
        ThunderOwned x = Checks.parish("t1;p20;p20;b10;p00!9");
        share(x, 0, 1, 1);
        share(x, 1, 7, 8);
        share(x, 2, 7, 8);
        share(x, 3, 1, 2);
        share(x, 4, 1, 2);
        share(x, 6, 1, 8);
        share(x, 7, 0, 1);
        share(x, 90, 0, 1);
        x.own(0);
        share(x, 2, 3, 4);
        x.own(1);
        x.own(2);
        share(x, 0, 1, 1);
        share(x, 1, 0, 1);
        Checks.due("v 91", x.odds(91, 0), ThunderOwned.LOST);
        Checks.due("v -1", x.odds(-1, 0), ThunderOwned.LOST);
        Checks.due("which 2", x.odds(0, 2), ThunderOwned.LOST);
        Checks.due("which -1", x.odds(0, -1), ThunderOwned.LOST);
        share(Checks.parish("t1;d90;d90;d90;d90;d90"), 90, 1, 32);
    }

    private static void share(ThunderOwned x, int v, long upper, long lower) {
        Checks.due("upper of " + v, x.odds(v, 0), upper);
        Checks.due("lower of " + v, x.odds(v, 1), lower);
    }
}
