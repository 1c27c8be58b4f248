/** Promises 6 to 10: owning, laying, nights, days, what is behind so many nights. */
public final class NightsTest {
    public static void main(String[] args) {
        owns();
        lays();
        nightsOneByOne();
        nightsThatAreQuiet();
        stonesAreLaidByNights();
        hangsStepOn();
        nightRefusals();
        daysByActs();
        firstWrongs();
        dayChangesNothing();
        dayRefusalsAndFaults();
        behinds();
        Checks.end();
    }

    private static void owns() {
        ThunderOwned x = Checks.parish("t1;p30;p00;b00!2");
        Checks.due("own(0)", x.own(0), 1);
        Checks.due("own(0) again", x.own(0), 0);
        Checks.due("own(0) a third time", x.own(0), 0);
        Checks.due("own(1)", x.own(1), 0);
        Checks.due("own(1) has not owned", x.ofHouse(1, 4), 0);
        Checks.due("own(2)", x.own(2), 1);
        Checks.due("own(3)", x.own(3), ThunderOwned.UNKNOWN);
        Checks.due("own(-1)", x.own(-1), ThunderOwned.UNKNOWN);
        Checks.due("hats of 0", x.ofHouse(0, 6), 2);
        Checks.due("hats of 1", x.ofHouse(1, 6), 1);
        Checks.due("hats", x.many(3), 3);
        Checks.due("voice", x.many(6), 2);
        Checks.due("owning is no night", x.many(2), 0);
    }

    private static void lays() {
        ThunderOwned x = Checks.parish("t1;d35!47");
        Checks.due("lay(1)", x.lay(1), 10);
        Checks.due("lay(1) again", x.lay(1), ThunderOwned.STATE);
        Checks.due("lay(2)", x.lay(2), ThunderOwned.UNKNOWN);
        Checks.due("lay(-1)", x.lay(-1), ThunderOwned.UNKNOWN);
        Checks.due("lay(0)", x.lay(0), 6);
        Checks.due("voice", x.many(6), 6);
    }

    private static void nightsOneByOne() {
        ThunderOwned x = Checks.parish("t1;p31;b42;d50");
        Checks.due("night 1: house 0 owns at once", x.night(1), 15);
        Checks.due("house 0 has owned", x.ofHouse(0, 4), 1);
        Checks.due("sleep of 1", x.ofHouse(1, 2), 1);
        Checks.due("sleep of 2 stays 0", x.ofHouse(2, 2), 0);
        Checks.due("house 2 waits for its turn", x.ofHouse(2, 4), 0);
        Checks.due("night 2: house 1 owns", x.night(1), 10);
        Checks.due("night 3: house 2 owns", x.night(1), 0);
        Checks.due("hangs", x.many(5), 0);
        Checks.due("nights", x.many(2), 3);
        Checks.due("hats", x.many(3), 0);
        ThunderOwned y = Checks.parish("t1;p00;p39");
        Checks.due("house 0 has no wrong", y.night(1), 3);
        Checks.due("so it loses a hat", y.ofHouse(0, 6), 1);
        Checks.due("house 1 still sleeps", y.night(1), 3);
        Checks.due("no hat of it", y.ofHouse(1, 6), 0);
        Checks.due("hat again", y.night(1), 3);
        Checks.due("two hats", y.many(3), 2);
    }

    private static void nightsThatAreQuiet() {
        ThunderOwned x = Checks.parish("t1;p00;p05");
        Checks.due("quiet from the start", x.night(3), 0);
        Checks.due("it counts", x.many(2), 3);
        Checks.due("no hat", x.many(3), 0);
        Checks.due("sleep stays", x.ofHouse(1, 2), 5);
        Checks.due("hangs stays", x.many(5), 0);
    }

    private static void stonesAreLaidByNights() {
        ThunderOwned x = Checks.parish("t1;p11!3535");
        Checks.due("owns and a stone is laid in the same night", x.night(1), 11);
        Checks.due("the first of the heaviest", x.ofStone(1, 1), 1);
        Checks.due("the other one not yet", x.ofStone(3, 1), 0);
        Checks.due("hat, the other one", x.night(1), 6);
        Checks.due("the first of the rest", x.night(1), 3);
        Checks.due("it is laid", x.ofStone(0, 1), 1);
        Checks.due("the last one", x.night(1), 0);
        Checks.due("hats", x.many(3), 3);
        Checks.due("quiet now", x.night(5), 0);
        Checks.due("hats no more", x.many(3), 3);
    }

    private static void hangsStepOn() {
        for (int step = 1; step <= 4; step++) {
            ThunderOwned x = Checks.parish("t" + step + ";p19;p19;p19");
            for (int n = 1; n <= 7; n++) {
                x.night(1);
                Checks.due("step " + step + " night " + n, x.many(5), n * step % 3);
            }
        }
        ThunderOwned x = Checks.parish("t3;p19");
        x.night(1);
        Checks.due("one house alone", x.many(5), 0);
    }

    private static void nightRefusals() {
        ThunderOwned x = new ThunderOwned();
        Checks.due("night(0) without a parish", x.night(0), ThunderOwned.OUTSIDE);
        Checks.due("night(1) without a parish", x.night(1), ThunderOwned.STATE);
        x = Checks.parish("t1;p99");
        Checks.due("night(0)", x.night(0), ThunderOwned.OUTSIDE);
        Checks.due("night(61)", x.night(61), ThunderOwned.OUTSIDE);
        Checks.due("night(-1)", x.night(-1), ThunderOwned.OUTSIDE);
        Checks.due("none went by", x.many(2), 0);
        Checks.due("night(8)", x.night(8), 9);
        Checks.due("night(60)", x.night(60), 0);
        Checks.due("nights", x.many(2), 68);
    }

    private static void daysByActs() {
        ThunderOwned x = Checks.parish("t2;p31;b12;d20!64");
        Checks.due("nothing", Checks.day(x, 0), 19);
        Checks.due("house 0 owns", Checks.day(x, 0, 0), 16);
        Checks.due("house 0 owns twice, hats", Checks.day(x, 2, 0, 0), 1);
        Checks.due("stone 0 laid", Checks.day(x, 0, 10), 13);
        Checks.due("stone 1 laid", Checks.day(x, 0, 11), 15);
        Checks.due("rankle", Checks.day(x, 3, 1), 5);
        Checks.due("sleep 9", Checks.day(x, 11, 6), 9);
        Checks.due("sleep 9, a night", Checks.day(x, 11, 6, 14), 8);
        Checks.due("a night", Checks.day(x, 0, 14), 16);
        Checks.due("hangs", Checks.day(x, 4, 14), 2);
        Checks.due("a night that is slept through", Checks.day(x, 0, 5, 14), 19);
        Checks.due("three own, hangs", Checks.day(x, 4, 0, 1, 2), 0);
        Checks.due("three own, none rankles", Checks.day(x, 3, 0, 1, 2), 0);
        Checks.due("own and a night: a stone, too", Checks.day(x, 0, 0, 1, 2, 14), 4);
        Checks.due("and a hat", Checks.day(x, 2, 0, 1, 2, 14), 1);
        Checks.due("sleep of no house", Checks.day(x, 13, 14), ThunderOwned.NONE);
        Checks.due("20 nights", Checks.day(x, 0, 14, 14, 14, 14, 14, 14, 14, 14, 14, 14, 14, 14, 14, 14,
            14, 14, 14, 14, 14, 14), 0);
        x.own(0);
        x.own(0);
        Checks.due("hats of the day alone", Checks.day(x, 2, 0), 1);
    }

    private static void firstWrongs() {
        ThunderOwned x = Checks.parish("t1;p11;p11!2");
        Checks.due("none", Checks.day(x, 1, 0, 1, 5, 6, 10, 14), ThunderOwned.NONE);
        Checks.due("no house owns", Checks.day(x, 1, 0, 2), 1);
        Checks.due("no house sleeps", Checks.day(x, 1, 0, 1, 7), 2);
        Checks.due("no stone", Checks.day(x, 1, 11), 0);
        Checks.due("laid in the day", Checks.day(x, 1, 10, 10), 1);
        Checks.due("laid by a night", Checks.day(x, 1, 0, 1, 14, 10), 3);
        Checks.due("the first of two", Checks.day(x, 1, 14, 4, 13), 1);
        for (int what : new int[] {0, 2, 3, 4, 10, 12, 14}) {
            Checks.due("what " + what, Checks.day(x, what, 14, 4, 13), -101);
        }
        x.lay(0);
        Checks.due("laid ahead of the day", Checks.day(x, 1, 10), 0);
        Checks.due("fault is none", x.fault(), 0);
    }

    private static void dayChangesNothing() {
        ThunderOwned x = Checks.parish("t1;p11;p19!2");
        Checks.day(x, 0, 14, 0, 1, 0, 10, 5, 14);
        Checks.due("nights", x.many(2), 0);
        Checks.due("hats", x.many(3), 0);
        Checks.due("hangs", x.many(5), 0);
        Checks.due("voice", x.many(6), 4);
        Checks.due("sleep", x.ofHouse(0, 2), 1);
        Checks.due("laid", x.ofStone(0, 1), 0);
    }

    private static void dayRefusalsAndFaults() {
        ThunderOwned x = new ThunderOwned();
        Checks.row(x, 1, 1, 14, 15, -1, 3);
        dayFault(x, x.day(1, 1, 0, 2, 0), ThunderOwned.STATE, 0);
        dayFault(x, x.day(1, 1, 0, 5, 0), -13, 3);
        Checks.text(x, "t1;p11");
        int most = Integer.MAX_VALUE;
        dayFault(x, x.day(4, 7, 0, 0, 0), ThunderOwned.UNKNOWN, 0);
        dayFault(x, x.day(-1, 1, 0, 0, 0), ThunderOwned.UNKNOWN, 0);
        dayFault(x, x.day(2, 3, 0, 0, 0), ThunderOwned.OUTSIDE, 0);
        dayFault(x, x.day(2, -1, 0, 0, 0), ThunderOwned.OUTSIDE, 0);
        dayFault(x, x.day(2, 1, 0, -1, 0), ThunderOwned.OUTSIDE, 0);
        dayFault(x, x.day(2, 1, 0, 21, 0), ThunderOwned.OUTSIDE, 0);
        for (int what : new int[] {-1, 5, 9, 15, most}) {
            dayFault(x, x.day(2, 1, 0, 0, what), ThunderOwned.OUTSIDE, 0);
        }
        dayFault(x, x.day(1, 0, 9, 1, 0), -12, 2);
        dayFault(x, x.day(1, 2, 0, 1, 0), -12, 2);
        dayFault(x, x.day(2, 2, 9, 1, 0), -11, 1);
        dayFault(x, x.day(1, 1, 5, 0, 0), -13, 3);
        dayFault(x, x.day(1, 1, -1, 0, 0), -13, 3);
        dayFault(x, x.day(1, 1, most, 1, 0), -13, 3);
        dayFault(x, x.day(1, 1, 0, 5, 0), -13, 3);
        dayFault(x, x.day(1, 1, 4, 0, 0), 1, 0);
        dayFault(x, x.day(1, 1, 0, 2, 1), ThunderOwned.OUTSIDE, 0);
        dayFault(x, x.day(1, 1, 2, 2, 1), ThunderOwned.OUTSIDE, 0);
        dayFault(x, x.day(1, 1, 3, 1, 1), 0, 0);
        Checks.row(x, 1, 2, 4, 15);
        dayFault(x, x.day(1, 2, 0, 2, 1), ThunderOwned.OUTSIDE, 0);
        dayFault(x, x.day(1, 2, 0, 1, 1), 0, 0);
    }

    private static void dayFault(ThunderOwned x, int got, int want, int fault) {
        Checks.due("day refused", got, want);
        Checks.due("fault of it", x.fault(), fault);
    }

    private static void behinds() {
        ThunderOwned x = Checks.parish("t1;p31;p02!5");
        int[][] due = {{8, 0, 0}, {0, 1, 0}, {0, 1, 0}};
        for (int t = 0; t < 3; t++) {
            for (int what = 0; what < 3; what++) {
                Checks.due("behind(" + t + ", " + what + ")", x.behind(t, what), due[t][what]);
            }
        }
        x.sleep(0, 3);
        x.own(1);
        Checks.due("behind(2, 0)", x.behind(2, 0), 8);
        Checks.due("hats of the nights alone", x.behind(2, 2), 1);
        Checks.due("hangs", x.behind(1, 1), 1);
        Checks.due("behind(60, 0)", x.behind(60, 0), 0);
        Checks.due("nothing went by", x.many(2), 0);
        Checks.due("hats", x.many(3), 1);
        Checks.due("behind(61, 0)", x.behind(61, 0), ThunderOwned.OUTSIDE);
        Checks.due("behind(-1, 0)", x.behind(-1, 0), ThunderOwned.OUTSIDE);
        Checks.due("behind(0, 3)", x.behind(0, 3), ThunderOwned.OUTSIDE);
        Checks.due("behind(0, -1)", x.behind(0, -1), ThunderOwned.OUTSIDE);
        ThunderOwned y = new ThunderOwned();
        Checks.due("behind(0, 0) without a parish", y.behind(0, 0), ThunderOwned.STATE);
        Checks.due("behind(61, 0) without a parish", y.behind(61, 0), ThunderOwned.OUTSIDE);
    }
}
