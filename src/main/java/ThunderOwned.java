/**
 * Thunder over a mountain parish, which has to be claimed by whoever has a wrong on their mind.
 * Words in capitals in the comments are terms of the document.
 */
public final class ThunderOwned {
    public static final int UNKNOWN = -1, OUTSIDE = -2, STATE = -3, FULL = -4, NONE = -9;
    public static final long LOST = Long.MIN_VALUE;

    private static final int NULL = 1, CAST = 2, INDEX = 3, SIZE = 4;
    private static final int PLAIN = 0, BROODING = 1, DOUBLE = 2;
    private static final int BYTES = 0, SHORTS = 1, INTS = 2;

    private static final int MOST_SHEETS = 4, MOST_CELLS = 60;
    private static final int MOST_READINGS = 8, MOST_VOICE = 200;
    private static final int MOST_NIGHTS = 60, MOST_ACTS = 20, LAST_ACT = 14, MOST_CLAP = 90;
    private static final int MOST_SLEEP = 9, MOST_WRONG = 9, MOST_STEP = 4;
    private static final int PAIN_WITHOUT_WRONG = 6, MOST_PAIN_OF_NIGHTS = 20;
    private static final int FIRST_SLEEP_ASKED = 10;

    private final Parish now = new Parish();
    /** Where a text, a day or a guess is tried out, so that no call has to make a parish of its own. */
    private final Parish trial = new Parish();
    private final Sheet[] sheets = new Sheet[MOST_SHEETS];
    private final int[] readingNights = new int[MOST_READINGS];
    private final int[] readingVoices = new int[MOST_READINGS];
    private final int[] nightsOfChoice = new int[4];
    private int readingCount = 0;
    private int nightsGone = 0;
    private int traceLeft = 0;
    private int latestFault = 0;

    public ThunderOwned() {
        for (int k = 0; k < MOST_SHEETS; k++) {
            sheets[k] = new Sheet();
        }
    }

    // ---- 1 the parish

    public int parish(int sheet, int lane, int i, int n) {
        latestFault = 0;
        if (!isSheet(sheet)) {
            return UNKNOWN;
        }
        if (!isLane(lane)) {
            return OUTSIDE;
        }
        Sheet text = sheets[sheet];
        int found = faultOfCells(text, lane, i, n);
        if (found != 0) {
            return faulted(found);
        }
        int place = firstFaultOfText(text, i, n);
        if (place != NONE) {
            return -100 - place;
        }
        now.become(trial);
        readingCount = 0;
        nightsGone = 0;
        return now.houseCount;
    }

    public int ofHouse(int h, int what) {
        if (!now.hasHouse(h)) {
            return UNKNOWN;
        }
        House house = now.houses[h];
        switch (what) {
            case 0:
                return house.kind;
            case 1:
                return house.wrong;
            case 2:
                return house.sleepLeft;
            case 3:
                return house.weight();
            case 4:
                return house.owned ? 1 : 0;
            case 5:
                return house.rankles() ? 1 : 0;
            case 6:
                return house.hats;
            default:
                return OUTSIDE;
        }
    }

    public int ofStone(int s, int what) {
        if (!now.hasStone(s)) {
            return UNKNOWN;
        }
        Stone stone = now.stones[s];
        switch (what) {
            case 0:
                return stone.hides;
            case 1:
                return stone.laid ? 1 : 0;
            default:
                return OUTSIDE;
        }
    }

    public int sleep(int h, int v) {
        if (!now.hasHouse(h)) {
            return UNKNOWN;
        }
        if (!isWithin(v, 0, MOST_SLEEP)) {
            return OUTSIDE;
        }
        House house = now.houses[h];
        int before = house.sleepLeft;
        house.sleepLeft = v;
        return before;
    }

    // ---- 2 nights

    public int own(int h) {
        if (!now.hasHouse(h)) {
            return UNKNOWN;
        }
        return now.houses[h].ownUp() ? 1 : 0;
    }

    public int lay(int s) {
        if (!now.hasStone(s)) {
            return UNKNOWN;
        }
        Stone stone = now.stones[s];
        if (stone.laid) {
            return STATE;
        }
        stone.laid = true;
        return now.voice();
    }

    public int night(int n) {
        if (!isWithin(n, 1, MOST_NIGHTS)) {
            return OUTSIDE;
        }
        if (!hasParish()) {
            return STATE;
        }
        now.passNights(n);
        nightsGone += n;
        return now.voice();
    }

    public int day(int sheet, int lane, int i, int n, int what) {
        latestFault = 0;
        if (!isSheet(sheet)) {
            return UNKNOWN;
        }
        if (!isLane(lane) || !isWithin(n, 0, MOST_ACTS) || !isAskedOfDay(what)) {
            return OUTSIDE;
        }
        Sheet acts = sheets[sheet];
        int found = faultOfCells(acts, lane, i, n);
        if (found != 0) {
            return faulted(found);
        }
        if (!hasParish()) {
            return STATE;
        }
        if (!areActs(acts, i, n)) {
            return OUTSIDE;
        }
        int wrongAct = firstWrongOfDay(acts, i, n);
        if (what == 1) {
            return wrongAct;
        }
        return wrongAct != NONE ? -100 - wrongAct : afterDay(what);
    }

    public int behind(int t, int what) {
        if (!isWithin(t, 0, MOST_NIGHTS) || !isWithin(what, 0, 2)) {
            return OUTSIDE;
        }
        if (!hasParish()) {
            return STATE;
        }
        trial.become(now);
        trial.passNights(t);
        if (what == 0) {
            return trial.voice();
        }
        return what == 1 ? trial.hangs : trial.hatsLost() - now.hatsLost();
    }

    // ---- 3 whose it is

    public int quiet() {
        if (!hasParish()) {
            return STATE;
        }
        trial.become(now);
        return trial.nightsUntilQuiet(MOST_NIGHTS);
    }

    public int fewest(int t, int what) {
        if (!isWithin(t, 0, MOST_NIGHTS) || !isWithin(what, 0, 1)) {
            return OUTSIDE;
        }
        if (!hasParish()) {
            return STATE;
        }
        int best = NONE;
        int bestCount = NONE;
        // sets come by their numbers, so the first one of a size is the least
        for (int set = 0; set < now.setCount(); set++) {
            int count = Integer.bitCount(set);
            if ((best == NONE || count < bestCount) && now.doesSetRankle(set) && isQuietIfOwned(set, t)) {
                best = set;
                bestCount = count;
            }
        }
        return what == 0 ? bestCount : best;
    }

    public int claps(int v, int what) {
        if (!isWithin(v, 0, MOST_CLAP) || !isWithin(what, 0, 1)) {
            return OUTSIDE;
        }
        if (!hasParish()) {
            return STATE;
        }
        int least = NONE;
        int count = 0;
        for (int set = 0; set < now.setCount(); set++) {
            if (now.doesSetRankle(set) && now.weightOfSet(set) == v) {
                count++;
                least = least == NONE ? set : least;
            }
        }
        return what == 0 ? count : least;
    }

    public int rests(int a, int b) {
        if (!now.hasHouse(a) || !now.hasHouse(b) || a == b) {
            return UNKNOWN;
        }
        for (int choice = 0; choice < 4; choice++) {
            nightsOfChoice[choice] = nightsIfChosen(a, b, choice);
        }
        int set = 0;
        for (int choice = 0; choice < 4; choice++) {
            if (isContent(a, 1, choice) && isContent(b, 2, choice)) {
                set |= 1 << choice;
            }
        }
        return set;
    }

    // ---- 4 how loud it was

    public int reading(int t, int v) {
        if (!hasParish()) {
            return STATE;
        }
        if (!isWithin(t, 0, MOST_NIGHTS) || !isWithin(v, 0, MOST_VOICE)) {
            return OUTSIDE;
        }
        if (readingCount >= MOST_READINGS) {
            return FULL;
        }
        readingNights[readingCount] = Math.min(t, Parish.MOST_NIGHTS_OF_CHANGE);
        readingVoices[readingCount] = v;
        readingCount++;
        return readingCount - 1;
    }

    public int back(int n) {
        if (!isWithin(n, 0, readingCount)) {
            return OUTSIDE;
        }
        readingCount -= n;
        return readingCount;
    }

    public int kinds(int h) {
        if (!now.hasHouse(h)) {
            return UNKNOWN;
        }
        int set = 0;
        for (int kind = PLAIN; kind <= DOUBLE; kind++) {
            trial.become(now);
            trial.houses[h].kind = kind;
            if (doReadingsHoldOfTrial()) {
                set |= 1 << kind;
            }
        }
        return set;
    }

    public int wrongs(int h) {
        if (!now.hasHouse(h)) {
            return UNKNOWN;
        }
        int set = 0;
        for (int wrong = 0; wrong <= MOST_WRONG; wrong++) {
            trial.become(now);
            trial.houses[h].wrong = wrong;
            if (doReadingsHoldOfTrial()) {
                set |= 1 << wrong;
            }
        }
        return set;
    }

    public int steps() {
        if (!hasParish()) {
            return STATE;
        }
        int set = 0;
        for (int step = 1; step <= MOST_STEP; step++) {
            trial.become(now);
            trial.step = step;
            if (doReadingsHoldOfTrial()) {
                set |= 1 << step;
            }
        }
        return set;
    }

    public long odds(int v, int which) {
        if (!isWithin(v, 0, MOST_CLAP) || !isWithin(which, 0, 1) || !hasParish()) {
            return LOST;
        }
        int upper = 0;
        int lower = 0;
        for (int set = 0; set < now.setCount(); set++) {
            if (now.doesSetRankle(set)) {
                lower++;
                upper += now.weightOfSet(set) >= v ? 1 : 0;
            }
        }
        // the lower number is a power of 2, so halves alone bring it to least terms
        for (; lower > 1 && upper % 2 == 0; lower /= 2) {
            upper /= 2;
        }
        return which == 0 ? upper : lower;
    }

    // ---- 5 sheets, parts

    public int sheet(int k, int lane, int n) {
        latestFault = 0;
        if (!isSheet(k)) {
            return UNKNOWN;
        }
        if (!isLane(lane) || n > MOST_CELLS) {
            return OUTSIDE;
        }
        if (n < 0) {
            return faulted(SIZE);
        }
        sheets[k].renew(lane, n);
        return 1;
    }

    public int lose(int k) {
        if (!isSheet(k)) {
            return UNKNOWN;
        }
        int had = sheets[k].present ? 1 : 0;
        sheets[k].present = false;
        return had;
    }

    public int put(int k, int i, int v) {
        latestFault = 0;
        if (!isSheet(k)) {
            return UNKNOWN;
        }
        Sheet row = sheets[k];
        if (!row.present) {
            return faulted(NULL);
        }
        if (!row.hasCells(i, 1)) {
            return faulted(INDEX);
        }
        row.cells[i] = row.cutToLane(v);
        return 1;
    }

    public long cell(int k, int i, int lane) {
        latestFault = 0;
        if (!isSheet(k) || !isLane(lane)) {
            return LOST;
        }
        Sheet row = sheets[k];
        int found = faultOfCells(row, lane, i, 1);
        if (found != 0) {
            latestFault = found;
            return LOST;
        }
        return row.cells[i];
    }

    public int copy(int k, int i, int other, int j, int n) {
        latestFault = 0;
        if (!isSheet(k) || !isSheet(other)) {
            return UNKNOWN;
        }
        Sheet from = sheets[k];
        Sheet to = sheets[other];
        if (!from.present || !to.present) {
            return faulted(NULL);
        }
        if (from.lane != to.lane) {
            return faulted(CAST);
        }
        if (!from.hasCells(i, n) || !to.hasCells(j, n)) {
            return faulted(INDEX);
        }
        System.arraycopy(from.cells, i, to.cells, j, n);
        return n;
    }

    public int tell(int h) {
        if (!now.hasHouse(h)) {
            return UNKNOWN;
        }
        House house = now.houses[h];
        switch (house.kind) {
            case DOUBLE:
                return toldAsDouble(house);
            case BROODING:
                return toldAsBrooding(house);
            default:
                return toldAsPlain(house);
        }
    }

    public int knock(int h) {
        if (!now.hasHouse(h)) {
            return UNKNOWN;
        }
        House house = now.houses[h];
        return house.kind == DOUBLE ? knockedAsDouble() : knockedAsLent(house);
    }

    public int as(int h, int kind) {
        latestFault = 0;
        if (!now.hasHouse(h)) {
            return UNKNOWN;
        }
        if (!isWithin(kind, PLAIN, DOUBLE)) {
            return OUTSIDE;
        }
        // each kind is one of all kinds below its number, too
        return kind <= now.houses[h].kind ? 1 : faulted(CAST);
    }

    public int trace() {
        return traceLeft;
    }

    public int fault() {
        return latestFault;
    }

    public int many(int what) {
        switch (what) {
            case 0:
                return now.houseCount;
            case 1:
                return now.stoneCount;
            case 2:
                return nightsGone;
            case 3:
                return now.hatsLost();
            case 4:
                return readingCount;
            case 5:
                return now.hangs;
            case 6:
                return now.voice();
            default:
                return OUTSIDE;
        }
    }

    // ---- refusals and faults

    private static boolean isWithin(int v, int least, int most) {
        return v >= least && v <= most;
    }

    private static boolean isSheet(int k) {
        return isWithin(k, 0, MOST_SHEETS - 1);
    }

    private static boolean isLane(int lane) {
        return isWithin(lane, BYTES, INTS);
    }

    private static boolean isAskedOfDay(int what) {
        return isWithin(what, 0, 4) || isWithin(what, FIRST_SLEEP_ASKED, FIRST_SLEEP_ASKED + Parish.MOST_HOUSES - 1);
    }

    /** A text that is taken has a HOUSE at least, so no HOUSES are no PARISH. */
    private boolean hasParish() {
        return now.houseCount > 0;
    }

    private int faulted(int found) {
        latestFault = found;
        return -10 - found;
    }

    /** The FAULT of n cells from i on, taken as a row of a LANE; 0: there is none. */
    private static int faultOfCells(Sheet row, int lane, int i, int n) {
        if (!row.present) {
            return NULL;
        }
        if (row.lane != lane) {
            return CAST;
        }
        if (n < 0) {
            return SIZE;
        }
        return row.hasCells(i, n) ? 0 : INDEX;
    }

    // ---- texts and days

    /** The FIRST FAULT of a TEXT, or NONE: then the trial is the parish that it tells. */
    private int firstFaultOfText(Sheet text, int i, int n) {
        TextReader reader = new TextReader(trial);
        for (int place = 0; place < n; place++) {
            if (!reader.takes(text.cells[i + place])) {
                return place;
            }
        }
        return reader.mayEnd() ? NONE : n;
    }

    private static boolean areActs(Sheet acts, int i, int n) {
        for (int place = 0; place < n; place++) {
            if (!isWithin(acts.cells[i + place], 0, LAST_ACT)) {
                return false;
            }
        }
        return true;
    }

    /** The FIRST WRONG of a DAY, or NONE: then the trial is how all is behind it. */
    private int firstWrongOfDay(Sheet acts, int i, int n) {
        trial.become(now);
        for (int place = 0; place < n; place++) {
            if (!trial.acts(acts.cells[i + place])) {
                return place;
            }
        }
        return NONE;
    }

    private int afterDay(int what) {
        switch (what) {
            case 0:
                return trial.voice();
            case 2:
                return trial.hatsLost() - now.hatsLost();
            case 3:
                return trial.ranklingSet();
            case 4:
                return trial.hangs;
            default:
                int h = what - FIRST_SLEEP_ASKED;
                return trial.hasHouse(h) ? trial.houses[h].sleepLeft : NONE;
        }
    }

    // ---- guesses

    private boolean isQuietIfOwned(int set, int t) {
        trial.become(now);
        trial.ownUpAll(set);
        return trial.nightsUntilQuiet(t) != NONE;
    }

    private int nightsIfChosen(int a, int b, int choice) {
        trial.become(now);
        if ((choice & 1) != 0) {
            trial.houses[a].ownUp();
        }
        if ((choice & 2) != 0) {
            trial.houses[b].ownUp();
        }
        int nights = trial.nightsUntilQuiet(MOST_PAIN_OF_NIGHTS);
        return nights == NONE ? MOST_PAIN_OF_NIGHTS : nights;
    }

    /** Whether a HOUSE, whose own choice is a bit, would have no less PAIN by turning that bit alone. */
    private boolean isContent(int h, int bit, int choice) {
        return painOfChoice(h, bit, choice) <= painOfChoice(h, bit, choice ^ bit);
    }

    private int painOfChoice(int h, int bit, int choice) {
        int nights = nightsOfChoice[choice];
        if ((choice & bit) == 0) {
            return nights;
        }
        House house = now.houses[h];
        return nights + (house.rankles() ? house.weight() : PAIN_WITHOUT_WRONG);
    }

    /** Goes through the nights once for all READINGS; the trial is used up by it. */
    private boolean doReadingsHoldOfTrial() {
        int last = lastNightRead();
        for (int t = 0; t <= last; t++) {
            if (!isVoiceAsRead(t, trial.voice())) {
                return false;
            }
            trial.passNight();
        }
        return true;
    }

    private int lastNightRead() {
        int last = NONE;
        for (int r = 0; r < readingCount; r++) {
            last = Math.max(last, readingNights[r]);
        }
        return last;
    }

    private boolean isVoiceAsRead(int t, int voice) {
        for (int r = 0; r < readingCount; r++) {
            if (readingNights[r] == t && readingVoices[r] != voice) {
                return false;
            }
        }
        return true;
    }

    // ---- bodies that tell and knock

    private void leaveInTrace(int body) {
        traceLeft = 31 * traceLeft + body;
    }

    private int toldAsPlain(House house) {
        leaveInTrace(1);
        return house.wrong;
    }

    private int toldAsBrooding(House house) {
        leaveInTrace(2);
        return toldAsPlain(house) + 100;
    }

    private int toldAsDouble(House house) {
        leaveInTrace(3);
        int brooding = toldAsBrooding(house);
        return brooding + toldAsPlain(house);
    }

    private int knockedAsLent(House house) {
        leaveInTrace(4);
        return house.sleepLeft;
    }

    private int knockedAsDouble() {
        leaveInTrace(5);
        return 70;
    }

    private static final class House {
        private int kind = PLAIN;
        private int wrong = 0;
        private int sleepLeft = 0;
        private int hats = 0;
        private boolean owned = false;

        private int weight() {
            switch (kind) {
                case DOUBLE:
                    return 2 * wrong;
                case BROODING:
                    return wrong + 1;
                default:
                    return wrong;
            }
        }

        private boolean rankles() {
            return !owned && weight() > 0;
        }

        /** Whether it RANKLED; if not, it loses a HAT. */
        private boolean ownUp() {
            if (!rankles()) {
                hats++;
                return false;
            }
            owned = true;
            return true;
        }

        private void become(House like) {
            kind = like.kind;
            wrong = like.wrong;
            sleepLeft = like.sleepLeft;
            hats = like.hats;
            owned = like.owned;
        }
    }

    private static final class Stone {
        private int hides = 0;
        private boolean laid = false;

        private void become(Stone like) {
            hides = like.hides;
            laid = like.laid;
        }
    }

    private static final class Parish {
        private static final int MOST_HOUSES = 5, MOST_STONES = 4;
        /**
         * VOICE stays as it is behind so many nights: in 9 nobody has SLEEP left, in 5 more it has hung over
         * each HOUSE that it ever comes to, and then it lays a STONE a night or none at all.
         */
        private static final int MOST_NIGHTS_OF_CHANGE = MOST_SLEEP + MOST_HOUSES + MOST_STONES;

        private final House[] houses = new House[MOST_HOUSES];
        private final Stone[] stones = new Stone[MOST_STONES];
        private int houseCount = 0;
        private int stoneCount = 0;
        private int step = 0;
        private int hangs = 0;

        private Parish() {
            for (int h = 0; h < MOST_HOUSES; h++) {
                houses[h] = new House();
            }
            for (int s = 0; s < MOST_STONES; s++) {
                stones[s] = new Stone();
            }
        }

        private boolean hasHouse(int h) {
            return h >= 0 && h < houseCount;
        }

        private boolean hasStone(int s) {
            return s >= 0 && s < stoneCount;
        }

        private void empty() {
            houseCount = 0;
            stoneCount = 0;
            step = 0;
            hangs = 0;
        }

        private void addHouse(int kind, int wrong, int sleepLeft) {
            if (houseCount >= MOST_HOUSES) {
                return;
            }
            House house = houses[houseCount];
            house.kind = kind;
            house.wrong = wrong;
            house.sleepLeft = sleepLeft;
            house.hats = 0;
            house.owned = false;
            houseCount++;
        }

        private void addStone(int hides) {
            if (stoneCount >= MOST_STONES) {
                return;
            }
            stones[stoneCount].hides = hides;
            stones[stoneCount].laid = false;
            stoneCount++;
        }

        private void become(Parish like) {
            houseCount = like.houseCount;
            stoneCount = like.stoneCount;
            step = like.step;
            hangs = like.hangs;
            for (int h = 0; h < houseCount; h++) {
                houses[h].become(like.houses[h]);
            }
            for (int s = 0; s < stoneCount; s++) {
                stones[s].become(like.stones[s]);
            }
        }

        private int voice() {
            int sum = 0;
            for (int h = 0; h < houseCount; h++) {
                sum += houses[h].rankles() ? houses[h].weight() : 0;
            }
            for (int s = 0; s < stoneCount; s++) {
                sum += stones[s].laid ? 0 : stones[s].hides;
            }
            return sum;
        }

        private int hatsLost() {
            int sum = 0;
            for (int h = 0; h < houseCount; h++) {
                sum += houses[h].hats;
            }
            return sum;
        }

        private int ranklingSet() {
            int set = 0;
            for (int h = 0; h < houseCount; h++) {
                if (houses[h].rankles()) {
                    set |= 1 << h;
                }
            }
            return set;
        }

        private int setCount() {
            return 1 << houseCount;
        }

        private boolean doesSetRankle(int set) {
            return (set & ~ranklingSet()) == 0;
        }

        private int weightOfSet(int set) {
            int sum = 0;
            for (int h = 0; h < houseCount; h++) {
                sum += (set >> h & 1) != 0 ? houses[h].weight() : 0;
            }
            return sum;
        }

        private void ownUpAll(int set) {
            for (int h = 0; h < houseCount; h++) {
                if ((set >> h & 1) != 0) {
                    houses[h].ownUp();
                }
            }
        }

        private void passNight() {
            // the second test keeps index and divisor safe without a HOUSE
            if (voice() == 0 || !hasHouse(hangs)) {
                return;
            }
            loseSleep();
            if (houses[hangs].sleepLeft == 0) {
                houses[hangs].ownUp();
            }
            if (ranklingSet() == 0) {
                layHeaviestStone();
            }
            hangs = (hangs + step) % houseCount;
        }

        private void passNights(int n) {
            for (int i = 0; i < n; i++) {
                passNight();
            }
        }

        private void loseSleep() {
            for (int h = 0; h < houseCount; h++) {
                if (houses[h].sleepLeft > 0) {
                    houses[h].sleepLeft--;
                }
            }
        }

        private void layHeaviestStone() {
            int heaviest = NONE;
            int most = 0;
            for (int s = 0; s < stoneCount; s++) {
                if (!stones[s].laid && stones[s].hides > most) {
                    heaviest = s;
                    most = stones[s].hides;
                }
            }
            if (hasStone(heaviest)) {
                stones[heaviest].laid = true;
            }
        }

        /** In how many nights it is QUIET; NONE: in more than so many. The nights go by. */
        private int nightsUntilQuiet(int most) {
            int last = Math.min(most, MOST_NIGHTS_OF_CHANGE);
            for (int nights = 0; nights <= last; nights++) {
                if (voice() == 0) {
                    return nights;
                }
                passNight();
            }
            return NONE;
        }

        /** An act of a DAY; false, if it can't be. */
        private boolean acts(int act) {
            if (act < 5) {
                return ownsAsAct(act);
            }
            if (act < 10) {
                return sleepsAsAct(act - 5);
            }
            if (act < LAST_ACT) {
                return isLaidAsAct(act - 10);
            }
            passNight();
            return true;
        }

        private boolean ownsAsAct(int h) {
            if (!hasHouse(h)) {
                return false;
            }
            houses[h].ownUp();
            return true;
        }

        private boolean sleepsAsAct(int h) {
            if (!hasHouse(h)) {
                return false;
            }
            houses[h].sleepLeft = MOST_SLEEP;
            return true;
        }

        private boolean isLaidAsAct(int s) {
            if (!hasStone(s) || stones[s].laid) {
                return false;
            }
            stones[s].laid = true;
            return true;
        }
    }

    /** Takes a TEXT code by code and builds the parish that it tells. */
    private static final class TextReader {
        private static final int HEAD = 0, STEP = 1, FIRST_HOUSE = 2, KIND = 3, WRONG = 4, SLEEP = 5;
        private static final int AFTER_HOUSE = 6, FIRST_STONE = 7, NEXT_STONE = 8;

        private final Parish draft;
        private int due = HEAD;
        private int kind = PLAIN;
        private int wrong = 0;

        private TextReader(Parish draft) {
            this.draft = draft;
            draft.empty();
        }

        private boolean mayEnd() {
            return due == AFTER_HOUSE || due == NEXT_STONE;
        }

        /** False, if no TEXT goes on with this code. */
        private boolean takes(int code) {
            switch (due) {
                case HEAD:
                    return goesOn(code == 't', STEP);
                case STEP:
                    draft.step = code - '0';
                    return goesOn(isWithin(code, '1', '4'), FIRST_HOUSE);
                case FIRST_HOUSE:
                    return goesOn(code == ';', KIND);
                case KIND:
                    kind = kindOfLetter(code);
                    return goesOn(kind != NONE, WRONG);
                case WRONG:
                    wrong = code - '0';
                    return goesOn(isWithin(code, '0', '9'), SLEEP);
                case SLEEP:
                    return takesSleep(code);
                case AFTER_HOUSE:
                    return takesAfterHouse(code);
                default:
                    return takesStone(code);
            }
        }

        private boolean goesOn(boolean fits, int next) {
            due = fits ? next : due;
            return fits;
        }

        private static int kindOfLetter(int code) {
            switch (code) {
                case 'p':
                    return PLAIN;
                case 'b':
                    return BROODING;
                case 'd':
                    return DOUBLE;
                default:
                    return NONE;
            }
        }

        private boolean takesSleep(int code) {
            if (!isWithin(code, '0', '9')) {
                return false;
            }
            draft.addHouse(kind, wrong, code - '0');
            return goesOn(true, AFTER_HOUSE);
        }

        private boolean takesAfterHouse(int code) {
            if (code == '!') {
                return goesOn(true, FIRST_STONE);
            }
            return goesOn(code == ';' && draft.houseCount < Parish.MOST_HOUSES, KIND);
        }

        private boolean takesStone(int code) {
            if (!isWithin(code, '1', '9') || draft.stoneCount >= Parish.MOST_STONES) {
                return false;
            }
            draft.addStone(code - '0');
            return goesOn(true, NEXT_STONE);
        }
    }

    /** What a SHEET has; its cells are made once, so that a new row makes no object. */
    private static final class Sheet {
        private final int[] cells = new int[MOST_CELLS];
        private boolean present = false;
        private int lane = BYTES;
        private int length = 0;

        private void renew(int newLane, int newLength) {
            present = true;
            lane = newLane;
            length = newLength;
            for (int i = 0; i < MOST_CELLS; i++) {
                cells[i] = 0;
            }
        }

        /** Whether n cells from i on are there; told by what is left, as i and n together may wrap. */
        private boolean hasCells(int i, int n) {
            return i >= 0 && i <= length && n >= 0 && n <= length - i;
        }

        private int cutToLane(int v) {
            if (lane == BYTES) {
                return (byte) v;
            }
            return lane == SHORTS ? (short) v : v;
        }
    }
}
