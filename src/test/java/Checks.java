/** What the tests share: comparing answers, and putting texts and acts on sheets. */
final class Checks {
    private static int wrong = 0;
    private static int seen = 0;

    private Checks() {
    }

    static void due(String call, long got, long want) {
        seen++;
        if (got != want) {
            wrong++;
            System.out.println(call + " answered " + got + ", due is " + want);
        }
    }

    /** Puts numbers on a sheet as a new row of a lane. */
    static void row(ThunderOwned x, int sheet, int lane, int... numbers) {
        due("sheet for a row", x.sheet(sheet, lane, numbers.length), 1);
        for (int i = 0; i < numbers.length; i++) {
            due("put for a row", x.put(sheet, i, numbers[i]), 1);
        }
    }

    static int text(ThunderOwned x, String text) {
        row(x, 0, 0, text.chars().toArray());
        return x.parish(0, 0, 0, text.length());
    }

    /** A new object with the parish of a text that must be taken. */
    static ThunderOwned parish(String text) {
        ThunderOwned x = new ThunderOwned();
        if (text(x, text) < 1) {
            wrong++;
            System.out.println(text + " is not taken");
        }
        return x;
    }

    /** What a day of acts on sheet 1 answers. */
    static int day(ThunderOwned x, int what, int... acts) {
        row(x, 1, 2, acts);
        return x.day(1, 2, 0, acts.length, what);
    }

    static void end() {
        System.out.println(seen + " answers looked at, " + wrong + " wrong");
        if (wrong != 0 || seen == 0) {
            System.exit(1);
        }
    }
}
