/** Boundary cases of promises 11 to 14, and of QUIET, FEWEST, CLAPS, PAINS and RESTS: a test for each. */
public final class WhoseEdgesTest {
    public static void main(String[] args) {
        quietWithoutAParish();
        quietAlready();
        quietBehindTheLongestWait();
        quietNever();
        quietChangesNothing();
        fewestTooFewOrTooMany();
        fewestOfNoSuchNumber();
        fewestWithoutAParish();
        fewestOfNobody();
        fewestOfAll();
        fewestByNone();
        fewestAtTheVeryNight();
        fewestBehindSixty();
        fewestAreThoseThatRankle();
        fewestChangesNothing();
        clapsTooQuietOrTooLoud();
        clapsOfNoSuchNumber();
        clapsWithoutAParish();
        clapsOfNobody();
        clapsOfAll();
        clapsByNone();
        clapsTheLeastOfSeveral();
        clapsOfHousesThatRankleAlone();
        clapsChangeNothing();
        restsWithoutAHouse();
        restsOfBothTheSame();
        restsOfTheLastHouses();
        restsWhereItIsQuiet();
        restsWhereItNeverIs();
        restsWithLikePains();
        restsOfOneThatHasOwned();
        restsAsASet();
        restsChangeNothing();
        Checks.end();
    }

    private static void quietWithoutAParish() {
        Edges.changesNothing("quiet()", Edges::bare, x -> x.quiet(), ThunderOwned.STATE);
    }

    private static void quietAlready() {
        Checks.due("no weights, no stones", Checks.parish("t1;p09;d09").quiet(), 0);
        ThunderOwned x = Checks.parish("t1;p19!9");
        x.own(0);
        x.lay(0);
        Checks.due("owned and laid", x.quiet(), 0);
    }

    private static void quietBehindTheLongestWait() {
        // nobody owns ahead of night 9, the last one does in night 13, with the first stone of four
        ThunderOwned x = Checks.parish("t1;p19;p19;p19;p19;p19!1111");
        Checks.due("13 nights and three stones more", x.quiet(), 16);
        Checks.due("the night ahead", x.behind(15, 0), 1);
        Checks.due("that night", x.behind(16, 0), 0);
        Checks.due("one house, one night", Checks.parish("t4;p10").quiet(), 1);
        Checks.due("stones alone", Checks.parish("t4;p09!1111").quiet(), 4);
    }

    private static void quietNever() {
        Checks.due("house 1 is passed by", Checks.parish("t2;p00;b00").quiet(), ThunderOwned.NONE);
        Checks.due("and hinders the stone", Checks.parish("t4;p00;b00;p00;p00!1").quiet(), ThunderOwned.NONE);
        Checks.due("the same ones, step 1", Checks.parish("t1;p00;b00;p00;p00!1").quiet(), 2);
    }

    private static void quietChangesNothing() {
        // house 0 owns in night 3, house 2 in night 9, with a stone; the last stone is laid a night later
        Edges.changesNothing("quiet()", Edges::lived, x -> x.quiet(), 10);
    }

    private static void fewestTooFewOrTooMany() {
        for (int t : new int[] {-1, 61, Edges.MOST, Edges.LEAST}) {
            Edges.refused("fewest(" + t + ", 0)", x -> x.fewest(t, 0), ThunderOwned.OUTSIDE);
        }
    }

    private static void fewestOfNoSuchNumber() {
        for (int what : new int[] {-1, 2, Edges.MOST, Edges.LEAST}) {
            Edges.refused("fewest(0, " + what + ")", x -> x.fewest(0, what), ThunderOwned.OUTSIDE);
        }
    }

    private static void fewestWithoutAParish() {
        Edges.changesNothing("fewest(0, 0)", Edges::bare, x -> x.fewest(0, 0), ThunderOwned.STATE);
        Edges.changesNothing("fewest(60, 1)", Edges::bare, x -> x.fewest(60, 1), ThunderOwned.STATE);
    }

    private static void fewestOfNobody() {
        ThunderOwned x = Checks.parish("t1;p09");
        Checks.due("quiet, how many", x.fewest(0, 0), 0);
        Checks.due("quiet, the set", x.fewest(0, 1), 0);
    }

    private static void fewestOfAll() {
        ThunderOwned x = Checks.parish("t1;p10;p10;p10;p10;p10");
        Checks.due("five tonight, how many", x.fewest(0, 0), 5);
        Checks.due("five tonight, the set", x.fewest(0, 1), 31);
        for (int t = 1; t <= 5; t++) {
            Checks.due("within " + t, x.fewest(t, 0), 5 - t);
            Checks.due("within " + t + ", the set", x.fewest(t, 1), 31 >> t << t);
        }
    }

    private static void fewestByNone() {
        ThunderOwned x = Checks.parish("t1;p10!11");
        for (int t = 0; t < 2; t++) {
            Checks.due("how many within " + t, x.fewest(t, 0), ThunderOwned.NONE);
            Checks.due("the set within " + t, x.fewest(t, 1), ThunderOwned.NONE);
        }
        Checks.due("within 2", x.fewest(2, 0), 0);
    }

    private static void fewestAtTheVeryNight() {
        ThunderOwned x = Checks.parish("t1;p14;p19");
        Checks.due("night 9 is house 0's, so night 10", x.fewest(10, 1), 0);
        Checks.due("one less", x.fewest(9, 1), 2);
        Checks.due("house 0 in its night 5", x.fewest(5, 1), 2);
        Checks.due("one less again", x.fewest(4, 1), 3);
    }

    private static void fewestBehindSixty() {
        ThunderOwned x = Checks.parish("t2;p00;p10;p10;p10");
        Checks.due("those passed by, how many", x.fewest(60, 0), 2);
        Checks.due("those passed by, the set", x.fewest(60, 1), 10);
    }

    private static void fewestAreThoseThatRankle() {
        ThunderOwned x = Checks.parish("t1;p09;p19;d09;b09;p19");
        x.own(1);
        Checks.due("how many", x.fewest(0, 0), 2);
        Checks.due("the set", x.fewest(0, 1), 24);
    }

    private static void fewestChangesNothing() {
        Edges.changesNothing("within 5", Edges::lived, x -> x.fewest(5, 1), 4);
        Edges.changesNothing("within 0", Edges::lived, x -> x.fewest(0, 1), ThunderOwned.NONE);
    }

    private static void clapsTooQuietOrTooLoud() {
        for (int v : new int[] {-1, 91, Edges.MOST, Edges.LEAST}) {
            Edges.refused("claps(" + v + ", 0)", x -> x.claps(v, 0), ThunderOwned.OUTSIDE);
        }
    }

    private static void clapsOfNoSuchNumber() {
        for (int what : new int[] {-1, 2, Edges.MOST, Edges.LEAST}) {
            Edges.refused("claps(0, " + what + ")", x -> x.claps(0, what), ThunderOwned.OUTSIDE);
        }
    }

    private static void clapsWithoutAParish() {
        Edges.changesNothing("claps(0, 0)", Edges::bare, x -> x.claps(0, 0), ThunderOwned.STATE);
        Edges.changesNothing("claps(90, 1)", Edges::bare, x -> x.claps(90, 1), ThunderOwned.STATE);
    }

    private static void clapsOfNobody() {
        ThunderOwned quiet = Checks.parish("t1;p00;d00");
        Checks.due("one of nobody, where nobody rankles", quiet.claps(0, 0), 1);
        Checks.due("its set", quiet.claps(0, 1), 0);
        ThunderOwned loud = Checks.parish("t1;d90;b00");
        Checks.due("one of nobody, where all rankle", loud.claps(0, 0), 1);
        Checks.due("its set", loud.claps(0, 1), 0);
    }

    private static void clapsOfAll() {
        ThunderOwned x = Checks.parish("t1;d90;d90;d90;d90;d90!9");
        Checks.due("of 90", x.claps(90, 0), 1);
        Checks.due("of 90, the set", x.claps(90, 1), 31);
        Checks.due("of 36, two of five", x.claps(36, 0), 10);
        Checks.due("of 36, the least", x.claps(36, 1), 3);
    }

    private static void clapsByNone() {
        ThunderOwned x = Checks.parish("t1;d90;d90;d90;d90;d90!9");
        for (int v : new int[] {1, 9, 17, 19, 89}) {
            Checks.due("how many of " + v, x.claps(v, 0), 0);
            Checks.due("the set of " + v, x.claps(v, 1), ThunderOwned.NONE);
        }
    }

    private static void clapsTheLeastOfSeveral() {
        ThunderOwned x = Checks.parish("t1;p50;p10;p40;p50");
        Checks.due("0 alone, 1 and 2, 3 alone", x.claps(5, 0), 3);
        Checks.due("the least", x.claps(5, 1), 1);
        x.own(0);
        Checks.due("1 and 2 are less than 3", x.claps(5, 1), 6);
    }

    private static void clapsOfHousesThatRankleAlone() {
        ThunderOwned x = Checks.parish("t1;p30;p00;p30!3");
        Checks.due("no stone, none without a weight", x.claps(3, 0), 2);
        x.own(0);
        Checks.due("none that has owned", x.claps(3, 0), 1);
        Checks.due("the other one", x.claps(3, 1), 4);
        Checks.due("not both", x.claps(6, 0), 0);
    }

    private static void clapsChangeNothing() {
        Edges.changesNothing("of 13", Edges::lived, x -> x.claps(13, 1), 5);
        Edges.changesNothing("of 14", Edges::lived, x -> x.claps(14, 0), 0);
    }

    private static void restsWithoutAHouse() {
        for (int h : new int[] {-1, 4, 5, Edges.MOST, Edges.LEAST}) {
            Edges.changesNothing("rests(" + h + ", 0)", Edges::lived, x -> x.rests(h, 0), ThunderOwned.UNKNOWN);
            Edges.changesNothing("rests(0, " + h + ")", Edges::lived, x -> x.rests(0, h), ThunderOwned.UNKNOWN);
            Edges.changesNothing("both", Edges::lived, x -> x.rests(h, h), ThunderOwned.UNKNOWN);
        }
        Edges.changesNothing("no parish", Edges::bare, x -> x.rests(0, 1), ThunderOwned.UNKNOWN);
    }

    private static void restsOfBothTheSame() {
        for (int h = 0; h < 4; h++) {
            int same = h;
            Edges.changesNothing("of " + h + " twice", Edges::lived, x -> x.rests(same, same), ThunderOwned.UNKNOWN);
        }
    }

    private static void restsOfTheLastHouses() {
        // 5 nights, 3 if both own: that saves less than the weight of 9 that it costs each
        ThunderOwned x = Checks.parish("t1;p10;p10;p10;p90;p90");
        Checks.due("rests(3, 4)", x.rests(3, 4), 1);
        Checks.due("rests(4, 3)", x.rests(4, 3), 1);
        Checks.due("rests(4, 5)", x.rests(4, 5), ThunderOwned.UNKNOWN);
    }

    private static void restsWhereItIsQuiet() {
        Checks.due("owning hurts 6 and helps nothing", Checks.parish("t1;p09;p09").rests(0, 1), 1);
    }

    private static void restsWhereItNeverIs() {
        // house 1 is passed by: waiting is 20 to it, owning its weight of 18 and a night for each stone
        Checks.due("19 is less than 20", Checks.parish("t2;p00;d90!1").rests(0, 1), 4);
        Checks.due("20 is as 20", Checks.parish("t2;p00;d90!11").rests(0, 1), 5);
        Checks.due("21 is more than 20", Checks.parish("t2;p00;d90!111").rests(0, 1), 1);
    }

    private static void restsWithLikePains() {
        // it hangs over house 0 alone, which waits 6 nights; neither has less pain where both are as great
        Checks.due("6 nights or a weight of 6", Checks.parish("t2;p66;p00").rests(0, 1), 3);
        Checks.due("6 nights or a weight of 7", Checks.parish("t2;p76;p00").rests(0, 1), 1);
        Checks.due("6 nights or a weight of 5", Checks.parish("t2;p56;p00").rests(0, 1), 2);
    }

    private static void restsOfOneThatHasOwned() {
        // house 2 would lose a hat, which hurts 6, whatever its weight; by it nothing gets quiet
        ThunderOwned x = Checks.parish("t3;p00;d90;p10");
        x.own(2);
        Checks.due("rests(1, 2)", x.rests(1, 2), 2);
        Checks.due("rests(2, 1)", x.rests(2, 1), 4);
    }

    private static void restsAsASet() {
        // both are passed by: one that owns alone has 18 more for nothing, both together 18 against 20
        Checks.due("both wait or both own", Checks.parish("t3;p00;d90;d90").rests(1, 2), 9);
        Checks.due("all but the first alone", Checks.parish("t1;p11;p11").rests(0, 1), 13);
        Checks.due("all but the second alone", Checks.parish("t1;p11;p11").rests(1, 0), 11);
    }

    private static void restsChangeNothing() {
        Edges.changesNothing("rests(0, 2)", Edges::lived, x -> x.rests(0, 2), 1);
        Edges.changesNothing("rests(3, 1)", Edges::lived, x -> x.rests(3, 1), 1);
    }
}
