/** Promises 11 to 14: when it is quiet, the fewest who must own, claps, rests. */
public final class WhoseTest {
    public static void main(String[] args) {
        quiets();
        fewestSets();
        clapsOfSets();
        restsOfTwo();
        Checks.end();
    }

    private static void quiets() {
        Checks.due("without a parish", new ThunderOwned().quiet(), ThunderOwned.STATE);
        Checks.due("at once", Checks.parish("t1;p05").quiet(), 0);
        Checks.due("in one", Checks.parish("t1;p11").quiet(), 1);
        Checks.due("in nine", Checks.parish("t1;p19").quiet(), 9);
        Checks.due("stones in one more each", Checks.parish("t1;p19!111").quiet(), 11);
        Checks.due("never", Checks.parish("t2;p00;p11").quiet(), ThunderOwned.NONE);
        Checks.due("never, as the hanging one is passed", Checks.parish("t2;p00;p11!9").quiet(), ThunderOwned.NONE);
        ThunderOwned x = Checks.parish("t1;p99;p99!9999");
        int nights = x.quiet();
        Checks.due("before", x.behind(nights - 1, 0) > 0 ? 1 : 0, 1);
        Checks.due("then", x.behind(nights, 0), 0);
        Checks.due("nothing is changed", x.many(6), 54);
        Checks.due("the same again", x.quiet(), nights);
        x.night(nights - 1);
        Checks.due("from how it is now", x.quiet(), 1);
    }

    private static void fewestSets() {
        ThunderOwned none = new ThunderOwned();
        Checks.due("without a parish", none.fewest(0, 0), ThunderOwned.STATE);
        Checks.due("without a parish, outside", none.fewest(61, 0), ThunderOwned.OUTSIDE);
        ThunderOwned x = Checks.parish("t1;p19;p00;b09;p19");
        Checks.due("fewest(0, 0)", x.fewest(0, 0), 3);
        Checks.due("fewest(0, 1)", x.fewest(0, 1), 13);
        Checks.due("fewest(9, 1)", x.fewest(9, 1), 12);
        Checks.due("fewest(60, 1)", x.fewest(60, 1), 0);
        Checks.due("fewest(60, 0)", x.fewest(60, 0), 0);
        Checks.due("nothing is changed", x.many(6), 3);
        x.own(0);
        Checks.due("those that rankle alone", x.fewest(0, 1), 12);
        Checks.due("fewest(61, 0)", x.fewest(61, 0), ThunderOwned.OUTSIDE);
        Checks.due("fewest(-1, 0)", x.fewest(-1, 0), ThunderOwned.OUTSIDE);
        Checks.due("fewest(0, 2)", x.fewest(0, 2), ThunderOwned.OUTSIDE);
        Checks.due("fewest(0, -1)", x.fewest(0, -1), ThunderOwned.OUTSIDE);
        ThunderOwned stones = Checks.parish("t1;p11!11");
        Checks.due("stones hinder", stones.fewest(1, 0), ThunderOwned.NONE);
        Checks.due("stones hinder, the set", stones.fewest(1, 1), ThunderOwned.NONE);
        Checks.due("in two by nobody", stones.fewest(2, 1), 0);
        ThunderOwned least = Checks.parish("t1;p13;p13;p13");
        Checks.due("the least of several, t 3", least.fewest(3, 1), 3);
        Checks.due("the least of several, t 4", least.fewest(4, 1), 2);
    }

    private static void clapsOfSets() {
        ThunderOwned none = new ThunderOwned();
        Checks.due("without a parish", none.claps(0, 0), ThunderOwned.STATE);
        Checks.due("without a parish, outside", none.claps(0, 2), ThunderOwned.OUTSIDE);
        ThunderOwned x = Checks.parish("t1;p30;b20;d30;p60;p00!3");
        Checks.due("of 0", x.claps(0, 0), 1);
        Checks.due("of 0, the set", x.claps(0, 1), 0);
        Checks.due("of 3", x.claps(3, 0), 2);
        Checks.due("of 3, the least", x.claps(3, 1), 1);
        Checks.due("of 6", x.claps(6, 0), 3);
        Checks.due("of 6, the least", x.claps(6, 1), 3);
        Checks.due("of 18", x.claps(18, 0), 1);
        Checks.due("of 19", x.claps(19, 0), 0);
        Checks.due("of 19, none", x.claps(19, 1), ThunderOwned.NONE);
        x.own(0);
        Checks.due("of 3, less one", x.claps(3, 0), 1);
        Checks.due("of 3, the other", x.claps(3, 1), 2);
        Checks.due("of 91", x.claps(91, 0), ThunderOwned.OUTSIDE);
        Checks.due("of -1", x.claps(-1, 0), ThunderOwned.OUTSIDE);
        Checks.due("what 2", x.claps(0, 2), ThunderOwned.OUTSIDE);
        Checks.due("what -1", x.claps(0, -1), ThunderOwned.OUTSIDE);
        Checks.due("of 90", Checks.parish("t1;d90;d90;d90;d90;d90").claps(90, 1), 31);
    }

    private static void restsOfTwo() {
        Checks.due("without a parish", new ThunderOwned().rests(0, 1), ThunderOwned.UNKNOWN);
        ThunderOwned x = Checks.parish("t1;p11;p11");
        Checks.due("rests(0, 0)", x.rests(0, 0), ThunderOwned.UNKNOWN);
        Checks.due("rests(0, 2)", x.rests(0, 2), ThunderOwned.UNKNOWN);
        Checks.due("rests(-1, 0)", x.rests(-1, 0), ThunderOwned.UNKNOWN);
        // nights: both wait 2, house 0 owns 2, house 1 owns 1, both 0
        Checks.due("rests(0, 1)", x.rests(0, 1), 1 | 4 | 8);
        Checks.due("rests(1, 0)", x.rests(1, 0), 1 | 2 | 8);
        // never by itself: 20 each, so that whoever is passed by had better own
        ThunderOwned never = Checks.parish("t2;p91;p91");
        Checks.due("one of two is passed by", never.rests(0, 1), 4);
        Checks.due("the other way round", never.rests(1, 0), 2);
        // without a wrong owning hurts 6 and helps nothing
        ThunderOwned quiet = Checks.parish("t1;p00;p00");
        Checks.due("nobody has a wrong", quiet.rests(0, 1), 1);
        // it hangs over house 0 alone, which waits 6 nights
        ThunderOwned alike = Checks.parish("t2;p66;p00");
        Checks.due("weight 6, 6 nights", alike.rests(0, 1), 1 | 2);
        Checks.due("weight 7, 6 nights", Checks.parish("t2;p76;p00").rests(0, 1), 1);
        Checks.due("weight 5, 6 nights", Checks.parish("t2;p56;p00").rests(0, 1), 2);
        // house 1 is passed by: 20 for never, against its weight of 18 and a night for each stone
        Checks.due("18 and 1, 20", Checks.parish("t2;p00;d90!1").rests(0, 1), 4);
        Checks.due("18 and 2, 20", Checks.parish("t2;p00;d90!11").rests(0, 1), 1 | 4);
        Checks.due("18 and 3, 20", Checks.parish("t2;p00;d90!111").rests(0, 1), 1);
        Checks.due("both or neither", Checks.parish("t3;p00;d90;d90").rests(1, 2), 1 | 8);
        // one that has owned loses a hat by it, and that hurts 6, whatever its weight
        ThunderOwned owned = Checks.parish("t3;p00;d90;p10");
        owned.own(2);
        Checks.due("owned already", owned.rests(1, 2), 2);
        Checks.due("nothing is changed", alike.many(3), 0);
    }
}
