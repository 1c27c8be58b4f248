/** Promises 1 to 5: a new object, texts, houses, stones, sleep. */
public final class ParishTest {
    public static void main(String[] args) {
        newObject();
        textsThatAreTaken();
        firstFaults();
        parishRefusalsAndFaults();
        textFromTheMiddle();
        faultyTextChangesNothing();
        takenTextMakesAllAnew();
        houses();
        stones();
        sleeps();
        Checks.end();
    }

    private static void newObject() {
        ThunderOwned x = new ThunderOwned();
        Checks.due("new fault", x.fault(), 0);
        for (int what = 0; what <= 6; what++) {
            Checks.due("new many(" + what + ")", x.many(what), 0);
        }
        for (int k = 0; k < 4; k++) {
            Checks.due("new lose(" + k + ")", x.lose(k), 0);
            Checks.due("new put(" + k + ")", x.put(k, 0, 1), -11);
        }
        Checks.due("new ofHouse(0, 9)", x.ofHouse(0, 9), ThunderOwned.UNKNOWN);
        Checks.due("new ofStone(0, 9)", x.ofStone(0, 9), ThunderOwned.UNKNOWN);
        Checks.due("new trace", x.trace(), 0);
        Checks.due("LOST", ThunderOwned.LOST, Long.MIN_VALUE);
    }

    private static void textsThatAreTaken() {
        taken("t1;p00", 1, 0);
        taken("t4;d99;b00", 2, 0);
        taken("t2;p12;b34;d56;p78;b90", 5, 0);
        taken("t3;p12;b34;d56;p78;b90!1234", 5, 4);
        taken("t3;p00!9", 1, 1);
    }

    private static void taken(String text, int houses, int stones) {
        ThunderOwned x = new ThunderOwned();
        Checks.due(text, Checks.text(x, text), houses);
        Checks.due(text + " fault", x.fault(), 0);
        Checks.due(text + " houses", x.many(0), houses);
        Checks.due(text + " stones", x.many(1), stones);
        Checks.due(text + " hangs", x.many(5), 0);
    }

    private static void firstFaults() {
        faulty("", 0);
        faulty("x", 0);
        faulty("T1;p00", 0);
        faulty("t", 1);
        faulty("t0;p00", 1);
        faulty("t5;p00", 1);
        faulty("t1", 2);
        faulty("t1!1", 2);
        faulty("t1p00", 2);
        faulty("t1;", 3);
        faulty("t1;q", 3);
        faulty("t1;p", 4);
        faulty("t1;p/0", 4);
        faulty("t1;p:0", 4);
        faulty("t1;p0", 5);
        faulty("t1;p0:", 5);
        faulty("t1;p0/", 5);
        faulty("t1;p00p", 6);
        faulty("t1;p00;", 7);
        faulty("t1;p00;!", 7);
        faulty("t1;p00!", 7);
        faulty("t1;p00!0", 7);
        faulty("t1;p00!:", 7);
        faulty("t1;p00!5;p00", 8);
        faulty("t1;p00!5!5", 8);
        faulty("t1;p00!50", 8);
        faulty("t1;p00!12345", 11);
        faulty("t1;p00;p00;p00;p00;p00;p00", 22);
        faulty("t1;p00;p00;p00;p00;p00;", 22);
        faulty("t1;p00;p00;p00;p00;p000", 22);
    }

    private static void faulty(String text, int place) {
        ThunderOwned x = new ThunderOwned();
        Checks.due(text, Checks.text(x, text), -100 - place);
        Checks.due(text + " fault", x.fault(), 0);
        Checks.due(text + " houses", x.many(0), 0);
        Checks.due(text + " night", x.night(1), ThunderOwned.STATE);
    }

    private static void parishRefusalsAndFaults() {
        ThunderOwned x = new ThunderOwned();
        Checks.row(x, 0, 1, "t1;p34".chars().toArray());
        int most = Integer.MAX_VALUE;
        parishFault(x, x.parish(-1, 9, 0, 6), ThunderOwned.UNKNOWN, 0);
        parishFault(x, x.parish(4, 1, 0, 6), ThunderOwned.UNKNOWN, 0);
        parishFault(x, x.parish(0, -1, 0, 6), ThunderOwned.OUTSIDE, 0);
        parishFault(x, x.parish(0, 3, -1, -1), ThunderOwned.OUTSIDE, 0);
        parishFault(x, x.parish(0, 0, 0, -1), -12, 2);
        parishFault(x, x.parish(0, 2, 0, 6), -12, 2);
        parishFault(x, x.parish(1, 2, 0, -1), -11, 1);
        parishFault(x, x.parish(0, 1, -1, -1), -14, 4);
        parishFault(x, x.parish(0, 1, 0, Integer.MIN_VALUE), -14, 4);
        parishFault(x, x.parish(0, 1, -1, 6), -13, 3);
        parishFault(x, x.parish(0, 1, 0, 7), -13, 3);
        parishFault(x, x.parish(0, 1, 1, 6), -13, 3);
        parishFault(x, x.parish(0, 1, 7, 0), -13, 3);
        parishFault(x, x.parish(0, 1, -1, 0), -13, 3);
        parishFault(x, x.parish(0, 1, 6, most), -13, 3);
        parishFault(x, x.parish(0, 1, most, most), -13, 3);
        parishFault(x, x.parish(0, 1, 6, 0), -100, 0);
        parishFault(x, x.parish(0, 1, 0, 0), -100, 0);
        Checks.due("parish of shorts", x.parish(0, 1, 0, 6), 1);
        Checks.due("parish of shorts, fault", x.fault(), 0);
    }

    private static void parishFault(ThunderOwned x, int got, int want, int fault) {
        Checks.due("parish refused", got, want);
        Checks.due("fault of it", x.fault(), fault);
        Checks.due("houses of it", x.many(0), 0);
    }

    private static void textFromTheMiddle() {
        ThunderOwned x = new ThunderOwned();
        Checks.row(x, 3, 2, "xxt2;b71!4yy".chars().toArray());
        Checks.due("from 2 on", x.parish(3, 2, 2, 8), 1);
        Checks.due("its wrong", x.ofHouse(0, 1), 7);
        Checks.due("its voice", x.many(6), 12);
        Checks.due("without the stones", x.parish(3, 2, 2, 6), 1);
        Checks.due("its voice then", x.many(6), 8);
        Checks.due("place from the text's start", x.parish(3, 2, 2, 10), -108);
        x.put(3, 2, 't' + 256);
        Checks.due("an int is not cut", x.parish(3, 2, 2, 8), -100);
        Checks.row(x, 3, 0, 't' + 256, '1', ';', 'p', '1', '1');
        Checks.due("a byte is cut", x.parish(3, 0, 0, 6), 1);
    }

    private static void faultyTextChangesNothing() {
        ThunderOwned x = Checks.parish("t1;b51;p32!8");
        x.night(1);
        x.own(0);
        x.reading(0, 11);
        Checks.due("faulty", Checks.text(x, "t3;d99;d99!1x"), -112);
        Checks.due("houses stay", x.many(0), 2);
        Checks.due("nights stay", x.many(2), 1);
        Checks.due("hats stay", x.many(3), 1);
        Checks.due("readings stay", x.many(4), 1);
        Checks.due("hangs stays", x.many(5), 1);
        Checks.due("voice stays", x.many(6), 11);
        Checks.due("kind stays", x.ofHouse(0, 0), 1);
        Checks.due("stone stays", x.ofStone(0, 0), 8);
    }

    private static void takenTextMakesAllAnew() {
        ThunderOwned x = Checks.parish("t1;b51;p32!8");
        x.tell(1);
        x.night(1);
        x.own(0);
        x.lay(0);
        x.reading(0, 3);
        // what a guess went through must not come into the new parish, either
        Checks.due("a guess", x.behind(4, 0), 0);
        Checks.due("taken", Checks.text(x, "t2;b51;p32!8"), 2);
        Checks.due("nights anew", x.many(2), 0);
        Checks.due("hats anew", x.many(3), 0);
        Checks.due("readings anew", x.many(4), 0);
        Checks.due("hangs anew", x.many(5), 0);
        Checks.due("voice anew", x.many(6), 17);
        Checks.due("owned anew", x.ofHouse(0, 4), 0);
        Checks.due("owned anew, the other", x.ofHouse(1, 4), 0);
        Checks.due("hats of one anew", x.ofHouse(0, 6), 0);
        Checks.due("sleep anew", x.ofHouse(0, 2), 1);
        Checks.due("laid anew", x.ofStone(0, 1), 0);
        Checks.due("trace is none of it", x.trace(), 1);
        Checks.due("without stones", Checks.text(x, "t2;p11"), 1);
        Checks.due("no stone", x.ofStone(0, 0), ThunderOwned.UNKNOWN);
        Checks.due("no second house", x.ofHouse(1, 0), ThunderOwned.UNKNOWN);
        ThunderOwned fewer = Checks.parish("t1;p19;p00");
        fewer.own(1);
        fewer.behind(1, 0);
        Checks.due("fewer houses", Checks.text(fewer, "t1;p19"), 1);
        Checks.due("no hats of those before", fewer.many(3), 0);
        Checks.due("nor where it hung in a guess", fewer.many(5), 0);
        ThunderOwned full = Checks.parish("t1;p19;p00;p00;p00;p00");
        full.own(4);
        Checks.due("hats of five houses", full.many(3), 1);
    }

    private static void houses() {
        ThunderOwned x = Checks.parish("t1;p45;b06;d79;d00;p00");
        int[][] due = {{0, 4, 5, 4, 0, 1, 0}, {1, 0, 6, 1, 0, 1, 0}, {2, 7, 9, 14, 0, 1, 0},
            {2, 0, 0, 0, 0, 0, 0}, {0, 0, 0, 0, 0, 0, 0}};
        for (int h = 0; h < 5; h++) {
            for (int what = 0; what < 7; what++) {
                Checks.due("ofHouse(" + h + ", " + what + ")", x.ofHouse(h, what), due[h][what]);
            }
            Checks.due("ofHouse what 7", x.ofHouse(h, 7), ThunderOwned.OUTSIDE);
            Checks.due("ofHouse what -1", x.ofHouse(h, -1), ThunderOwned.OUTSIDE);
        }
        Checks.due("ofHouse(5, 7)", x.ofHouse(5, 7), ThunderOwned.UNKNOWN);
        Checks.due("ofHouse(-1, 0)", x.ofHouse(-1, 0), ThunderOwned.UNKNOWN);
        x.own(2);
        x.own(2);
        Checks.due("weight stays", x.ofHouse(2, 3), 14);
        Checks.due("has owned", x.ofHouse(2, 4), 1);
        Checks.due("rankles no more", x.ofHouse(2, 5), 0);
        Checks.due("hat of it", x.ofHouse(2, 6), 1);
    }

    private static void stones() {
        ThunderOwned x = Checks.parish("t1;p45!19");
        Checks.due("ofStone(0, 0)", x.ofStone(0, 0), 1);
        Checks.due("ofStone(1, 0)", x.ofStone(1, 0), 9);
        Checks.due("ofStone(1, 1)", x.ofStone(1, 1), 0);
        x.lay(1);
        Checks.due("ofStone(0, 1)", x.ofStone(0, 1), 0);
        Checks.due("ofStone(1, 1) laid", x.ofStone(1, 1), 1);
        Checks.due("ofStone(1, 0) laid", x.ofStone(1, 0), 9);
        Checks.due("ofStone(1, 2)", x.ofStone(1, 2), ThunderOwned.OUTSIDE);
        Checks.due("ofStone(1, -1)", x.ofStone(1, -1), ThunderOwned.OUTSIDE);
        Checks.due("ofStone(2, 5)", x.ofStone(2, 5), ThunderOwned.UNKNOWN);
        Checks.due("ofStone(-1, 0)", x.ofStone(-1, 0), ThunderOwned.UNKNOWN);
    }

    private static void sleeps() {
        ThunderOwned x = Checks.parish("t1;p45;p16");
        Checks.due("sleep(1, 9)", x.sleep(1, 9), 6);
        Checks.due("sleep(1, 0)", x.sleep(1, 0), 9);
        Checks.due("sleep(1, 10)", x.sleep(1, 10), ThunderOwned.OUTSIDE);
        Checks.due("sleep(1, -1)", x.sleep(1, -1), ThunderOwned.OUTSIDE);
        Checks.due("sleep(2, 10)", x.sleep(2, 10), ThunderOwned.UNKNOWN);
        Checks.due("sleep(-1, 1)", x.sleep(-1, 1), ThunderOwned.UNKNOWN);
        Checks.due("sleep is 0", x.ofHouse(1, 2), 0);
        Checks.due("the other one's", x.ofHouse(0, 2), 5);
    }
}
