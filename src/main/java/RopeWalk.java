import java.util.NoSuchElementException;

/** The rope-walk of ../shared/DOC.md: words in capitals are the document's terms. */
public final class RopeWalk {
    public static final int NONE = -1;

    private static final int CANNOT = -2;
    private static final int ALL = -1;

    private static final int TAPE_MOST = 700;
    private static final int FED_AT_ONCE = 20;
    private static final int MAKERS_MOST = 6;
    private static final int ROPES_MOST = 8;
    private static final int SHIPS_MOST = 5;
    private static final int VOYAGES_MOST = 10;
    private static final int KNOTS_MOST = 64;
    private static final int OPEN_MOST = 8;
    private static final int SEEN_MOST = 24;
    private static final int UNDO_MOST = 20;
    private static final int ALLOT_MOST = 5;
    private static final int LETTERS_MOST = 6;
    private static final int EVEN_VALUES = 10;
    private static final int THOUGHT_VALUES = 10;

    private static final int GO_MOST = 200;
    private static final int DAY_MOST = 9000;
    private static final int SEARCH_DAYS = 199;
    private static final int PUT_OFF_DAYS = 60;
    private static final int SEEN_DAYS = 60;
    private static final int CHANCE_DAYS = 99;
    private static final int CHANCE_TIMES = 10;
    private static final int CALM_MOST = 6;
    private static final int SAIL_MOST = 30;
    private static final int YARDS_MOST = 792;
    private static final int HUNDRED = 100;

    private static final int TO_COME = 0;
    private static final int MADE = 1;
    private static final int BROKEN = 2;
    private static final int ROPE_LOST = 3;

    private static final int HARBOUR = 0;
    private static final int SEA = 1;
    private static final int SHIP_LOST = 2;

    private static final int TWIST_LAW = 0;
    private static final int WEAR_LAW = 1;
    private static final int PULL_LAW = 2;
    private static final int LAWS = 3;
    private static final long ERROR = Long.MIN_VALUE;
    private static final long VALUE_MOST = 1000000000000L;

    private static final int BY_NUMBERS = 0;
    private static final int AS_IT_GOES = 1;
    private static final int NEVER = 2;
    private static final int ALWAYS = 3;

    private static final int MISPLACED = 1;
    private static final int TOO_MUCH = 2;
    private static final int TOLD_ALREADY = 3;
    private static final int NOT_TOLD = 4;

    // Kinds of TOKENS; those of words follow the order of WORDS, and knots of a law bear them too.
    private static final int END = 0;
    private static final int NO_TOKEN = 1;
    private static final int NUMBER = 2;
    private static final int OWN_NAME = 3;
    private static final int FIRST_WORD = 10;
    private static final int MAKER = 10;
    private static final int ROPE = 11;
    private static final int SHIP = 12;
    private static final int RIG = 13;
    private static final int SAIL = 14;
    private static final int STORM = 15;
    private static final int SEED = 16;
    private static final int LAW = 17;
    private static final int TWIST = 18;
    private static final int PULL = 20;
    private static final int OR = 21;
    private static final int AND = 22;
    private static final int NOT = 23;
    private static final int YARDS = 24;
    private static final int DAY = 30;
    private static final int SEMICOLON = 40;
    private static final int OPEN = 41;
    private static final int CLOSE = 42;
    private static final int LESS = 43;
    private static final int LESS_OR_EQUAL = 44;
    private static final int EQUAL = 45;
    private static final int UNEQUAL = 46;
    private static final int MORE_OR_EQUAL = 47;
    private static final int MORE = 48;
    private static final int PLUS = 49;
    private static final int MINUS = 50;
    private static final int TIMES = 51;
    private static final int OVER = 52;

    private static final String WORDS = "maker rope ship rig sail storm seed law twist wear pull or and not yards even think sound bear stormy day ";
    private static final int WORD_COUNT = 21;

    // The order of NAMES in a row of their values, as in WORDS from yards on.
    private static final int NAME_COUNT = 7;
    private static final int YARDS_NAME = 0;
    private static final int EVEN_NAME = 1;
    private static final int THINK_NAME = 2;
    private static final int SOUND_NAME = 3;
    private static final int BEAR_NAME = 4;
    private static final int STORMY_NAME = 5;
    private static final int DAY_NAME = 6;

    private final int[] tape = new int[TAPE_MOST];
    private int tapeSize = 0;
    private final TextReader reader = new TextReader();
    private Told told = new Told();
    private int faultKind = 0;
    private int faultPlace = NONE;
    private final State now = new State();
    private final State image = new State();
    private final State trial = new State();
    private boolean hasImage = false;
    private final Days course = new Days(told);
    private final Sightings sightings = new Sightings();
    private final Changes changes = new Changes();
    private final Allotment allotment = new Allotment();
    // Sets of VOYAGES that putOff() has to look at.
    private final boolean[] isReached = new boolean[1 << VOYAGES_MOST];

    public RopeWalk() {
    }

    public int feed(int a, int b, int c, int d, int e) {
        if (tapeSize + FED_AT_ONCE > TAPE_MOST) {
            return NONE;
        }
        putBytes(a);
        putBytes(b);
        putBytes(c);
        putBytes(d);
        putBytes(e);
        return tapeSize;
    }

    private void putBytes(int four) {
        for (int shift = 24; shift >= 0 && tapeSize < TAPE_MOST; shift -= 8) {
            tape[tapeSize] = (four >> shift) & 255;
            tapeSize++;
        }
    }

    public int text(int n) {
        if (n < 0 || n > tapeSize) {
            return CANNOT;
        }
        tapeSize = 0;
        boolean isRead = reader.readAll(tape, n);
        faultKind = reader.faultKind();
        faultPlace = reader.faultPlace();
        if (!isRead) {
            return NONE;
        }
        told = reader.exchange(told);
        startAnew();
        return told.lines;
    }

    private void startAnew() {
        now.begin(told);
        hasImage = false;
        changes.forget();
        sightings.forget();
    }

    public int fault(int what) {
        if (what == 0) {
            return faultKind;
        }
        return what == 1 ? faultPlace : NONE;
    }

    public int named(int what, int letters) {
        switch (what) {
            case 0:
                return told.makers.find(letters);
            case 1:
                return told.ropes.find(letters);
            case 2:
                return told.ships.find(letters);
            default:
                return NONE;
        }
    }

    public int rope(int rope, int what) throws IndexOutOfBoundsException, NoSuchElementException {
        if (!isRope(rope)) {
            throw new IndexOutOfBoundsException("no such rope");
        }
        switch (what) {
            case 0:
                return told.ropeMaker[rope];
            case 1:
                return told.yards[rope];
            case 2:
                return now.ropeIs[rope];
            case 3:
                return now.sound[rope];
            case 4:
                return now.within[rope] == NONE ? CANNOT : now.within[rope];
            default:
                throw new NoSuchElementException("no such what");
        }
    }

    public int ship(int ship, int what) {
        if (!isShip(ship)) {
            return NONE;
        }
        switch (what) {
            case 0:
                return told.load[ship];
            case 1:
                return now.shipIs[ship];
            case 2:
                return now.daysLeft[ship];
            case 3:
                return now.timesHome[ship];
            case 4:
                return now.bear(ship);
            case 5:
                return course.mood(told, now, ship);
            case 6:
                return now.ropesWithin(ship);
            default:
                return NONE;
        }
    }

    public int maker(int maker, int what) {
        if (!isMaker(maker)) {
            return NONE;
        }
        if (what == 0) {
            return told.thought[maker];
        }
        return what == 1 ? told.even[maker] : NONE;
    }

    public long law(int what, int its) {
        course.begin(told, AS_IT_GOES);
        switch (what) {
            case TWIST_LAW:
                return isRope(its) ? course.twist(now, its) : ERROR;
            case WEAR_LAW:
                return isRope(its) ? course.wear(now, its, course.plainStormy) : ERROR;
            case PULL_LAW:
                return isShip(its) ? course.pull(now, its, course.plainStormy) : ERROR;
            default:
                return ERROR;
        }
    }

    public int rig(int rope, int ship) {
        if (!isRope(rope) || !isShip(ship)) {
            return NONE;
        }
        boolean isWhole = now.ropeIs[rope] == TO_COME || now.ropeIs[rope] == MADE;
        if (!isWhole || now.within[rope] != NONE || now.shipIs[ship] != HARBOUR) {
            return CANNOT;
        }
        changes.noteRope(now, rope);
        now.within[rope] = ship;
        return now.bear(ship);
    }

    public boolean takeOut(int rope) {
        if (!isRope(rope) || now.within[rope] == NONE || !isAtHand(rope)) {
            return false;
        }
        changes.noteRope(now, rope);
        now.within[rope] = NONE;
        return true;
    }

    /** Whether a ROPE is in no SHIP or in one in HARBOUR. */
    private boolean isAtHand(int rope) {
        int ship = now.within[rope];
        return ship == NONE || now.shipIs[ship] == HARBOUR;
    }

    public int mend(int rope) {
        if (!isRope(rope)) {
            return NONE;
        }
        boolean isMendable = now.ropeIs[rope] == MADE || now.ropeIs[rope] == BROKEN;
        if (!isMendable || !isAtHand(rope)) {
            return CANNOT;
        }
        changes.noteRope(now, rope);
        course.begin(told, AS_IT_GOES);
        course.make(now, rope);
        return now.sound[rope];
    }

    public int sail(int ship, int days) {
        if (!isShip(ship) || days < 1 || days > SAIL_MOST) {
            return NONE;
        }
        if (now.shipIs[ship] != HARBOUR) {
            return CANNOT;
        }
        changes.noteShip(ship);
        now.putToSea(ship, days);
        return now.bear(ship);
    }

    public int go(int n) {
        if (n < 0 || n > GO_MOST || now.day + n > DAY_MOST) {
            return NONE;
        }
        if (n > 0) {
            changes.forget();
        }
        course.begin(told, BY_NUMBERS);
        course.passMany(now, n);
        return now.day;
    }

    public int ahead(int n, int what, int ship) {
        if (n < 0 || n > GO_MOST || what < 0 || what > 4 || (what == 4 && !isShip(ship))) {
            return NONE;
        }
        startTrial(what == 4 ? ship : ALL, AS_IT_GOES);
        course.passMany(trial, n);
        switch (what) {
            case 0:
                return countEqual(trial.shipIs, told.ships.size, SHIP_LOST);
            case 1:
                return sum(trial.timesHome, told.ships.size) - sum(now.timesHome, told.ships.size);
            case 2:
                return countEqual(trial.ropeIs, told.ropes.size, BROKEN);
            case 3:
                return trial.refused - now.refused;
            default:
                return trial.bear(ship);
        }
    }

    /** One SHIP's fate never hangs on another's, so a trial of one alone is the same and shorter. */
    private void startTrial(int onlyShip, int storms) {
        trial.copy(now);
        course.begin(told, storms);
        course.onlyShip = onlyShip;
    }

    public int loses(int ship) {
        if (!isShip(ship)) {
            return NONE;
        }
        if (now.shipIs[ship] == SHIP_LOST) {
            return 0;
        }
        startTrial(ship, AS_IT_GOES);
        for (int i = 1; i <= SEARCH_DAYS && course.canSail(trial); i++) {
            course.pass(trial);
            if (trial.shipIs[ship] == SHIP_LOST) {
                return i;
            }
        }
        return CANNOT;
    }

    public int homes(int ship) {
        if (!isShip(ship)) {
            return NONE;
        }
        startTrial(ship, AS_IT_GOES);
        for (int i = 1; i <= SEARCH_DAYS && course.canSail(trial); i++) {
            course.pass(trial);
            if (trial.timesHome[ship] > now.timesHome[ship]) {
                return i;
            }
        }
        return CANNOT;
    }

    public int weakest(int ship) {
        if (!isShip(ship)) {
            return NONE;
        }
        int found = CANNOT;
        for (int rope = 0; rope < told.ropes.size; rope++) {
            boolean counts = now.within[rope] == ship && now.ropeIs[rope] == MADE;
            if (counts && (found < 0 || now.sound[rope] < now.sound[found])) {
                found = rope;
            }
        }
        return found;
    }

    public int splice(int n, int what) {
        if (n < 1 || n > YARDS_MOST || what < 0 || what > 1) {
            return NONE;
        }
        int free = freeRopes();
        int best = 0;
        int bestYards = 0;
        for (int bits = 1; bits <= free; bits++) {
            int yards = (bits & ~free) == 0 ? yardsOf(bits) : 0;
            if (yards >= n && (best == 0 || isBetterSplice(bits, yards, best, bestYards))) {
                best = bits;
                bestYards = yards;
            }
        }
        if (best == 0) {
            return CANNOT;
        }
        return what == 0 ? best : bestYards - n;
    }

    private static boolean isBetterSplice(int bits, int yards, int best, int bestYards) {
        int byNumber = Integer.compare(Integer.bitCount(bits), Integer.bitCount(best));
        return byNumber < 0 || (byNumber == 0 && yards < bestYards);
    }

    public int exact(int n) {
        if (n < 0 || n > YARDS_MOST) {
            return NONE;
        }
        int free = freeRopes();
        int found = 0;
        for (int bits = 0; bits <= free; bits++) {
            if ((bits & ~free) == 0 && yardsOf(bits) == n) {
                found++;
            }
        }
        return found;
    }

    /** The MADE ROPES in no SHIP, as bits. */
    private int freeRopes() {
        int bits = 0;
        for (int rope = 0; rope < told.ropes.size; rope++) {
            if (now.isFree(rope)) {
                bits |= 1 << rope;
            }
        }
        return bits;
    }

    private int yardsOf(int bits) {
        int yards = 0;
        for (int rope = 0; rope < told.ropes.size; rope++) {
            if ((bits >> rope & 1) != 0) {
                yards += told.yards[rope];
            }
        }
        return yards;
    }

    public int allot(int what) {
        if (what < 0 || what > 9) {
            return NONE;
        }
        allotment.solve(told, now);
        if (what == 8) {
            return allotment.bestBorne;
        }
        return what == 9 ? allotment.bestPut : allotment.shipOf(what);
    }

    public int game(int what) {
        if (what < 0 || what > 2) {
            return NONE;
        }
        int nim = 0;
        for (int rope = 0; rope < told.ropes.size; rope++) {
            nim ^= yardsInGame(rope);
        }
        if (what == 0) {
            return nim == 0 ? 1 : 0;
        }
        for (int rope = 0; rope < told.ropes.size; rope++) {
            int yards = yardsInGame(rope);
            if ((yards ^ nim) < yards) {
                return what == 1 ? rope : yards - (yards ^ nim);
            }
        }
        return CANNOT;
    }

    private int yardsInGame(int rope) {
        return now.ropeIs[rope] == MADE ? told.yards[rope] : 0;
    }

    public int putOff() {
        int bits = 0;
        for (int ship = 0; ship < told.ships.size; ship++) {
            int own = fewestPutOff(ship);
            if (own == CANNOT) {
                return CANNOT;
            }
            bits |= own;
        }
        return bits;
    }

    /** SHIPS don't touch one another: the fewest and least of all is the fewest and least of each. */
    private int fewestPutOff(int ship) {
        int all = told.voyagesOf(ship, now.day, now.day + PUT_OFF_DAYS);
        if (!survives(ship, all)) {
            return CANNOT;
        }
        int most = Integer.bitCount(all);
        forgetReached();
        for (int many = 0; many < most; many++) {
            int bits = 0;
            for (int i = 0; i < 1 << most; i++) {
                if (isReached[bits] && Integer.bitCount(bits) == many) {
                    if (survives(ship, bits)) {
                        return bits;
                    }
                    reachFrom(bits);
                }
                // The next greater set within all.
                bits = (bits - all) & all;
            }
        }
        return all;
    }

    private boolean survives(int ship, int putOff) {
        startTrial(ship, AS_IT_GOES);
        course.untold = putOff;
        for (int i = 0; i < PUT_OFF_DAYS && course.canSail(trial); i++) {
            course.pass(trial);
        }
        return trial.shipIs[ship] != SHIP_LOST;
    }

    private void forgetReached() {
        for (int bits = 0; bits < isReached.length; bits++) {
            isReached[bits] = bits == 0;
        }
    }

    /** Where a SHIP is LOST, all goes as ahead unless one more of those that sailed by then is put off. */
    private void reachFrom(int bits) {
        for (int voyage = 0; voyage < told.voyages; voyage++) {
            if ((course.sailed >> voyage & 1) != 0) {
                isReached[bits | 1 << voyage] = true;
            }
        }
    }

    public int rests(int one, int other) {
        if (!isMaker(one) || !isMaker(other) || one == other) {
            return NONE;
        }
        int found = 0;
        for (int ways = 0; ways < 4; ways++) {
            if (isRest(one, other, ways >> 1, ways & 1)) {
                found++;
            }
        }
        return found;
    }

    public int rest(int one, int other, int k) {
        if (!isMaker(one) || !isMaker(other) || one == other || k < 0) {
            return NONE;
        }
        int found = 0;
        for (int ways = 0; ways < 4; ways++) {
            if (isRest(one, other, ways >> 1, ways & 1)) {
                if (found == k) {
                    return 10 * (ways >> 1) + (ways & 1);
                }
                found++;
            }
        }
        return CANNOT;
    }

    private boolean isRest(int one, int other, int slackOne, int slackOther) {
        return haulGain(one, other, slackOne, slackOther) >= haulGain(one, other, 1 - slackOne, slackOther)
                && haulGain(other, one, slackOther, slackOne) >= haulGain(other, one, 1 - slackOther, slackOne);
    }

    private int haulGain(int own, int other, int ownSlacks, int otherSlacks) {
        if (ownSlacks == 0 && otherSlacks == 0) {
            return 9 - Math.abs(told.thought[own] - told.thought[other]);
        }
        if (ownSlacks == 0) {
            return told.even[own];
        }
        return otherSlacks == 0 ? told.even[other] + 1 : told.even[own] / 2;
    }

    public long calm(int n, int what) {
        if (n < 0 || n > CALM_MOST || what < 0 || what > 1) {
            return NONE;
        }
        long above = 1;
        long below = 1;
        for (int i = 0; i < n; i++) {
            above *= HUNDRED - told.storm;
            below *= HUNDRED;
        }
        long common = greatestDivisor(above, below);
        if (common <= 0) {
            return NONE;
        }
        return what == 0 ? above / common : below / common;
    }

    private static long greatestDivisor(long a, long b) {
        long one = a;
        long other = b;
        for (int i = 0; i < 1000 && other != 0; i++) {
            long left = one % other;
            one = other;
            other = left;
        }
        return one;
    }

    public int see(int days, int ship, boolean isLost) {
        if (days < 1 || days > SEEN_DAYS || !isShip(ship)) {
            return NONE;
        }
        return sightings.addSight(days, ship, isLost);
    }

    public int strike(int seen) {
        return sightings.addStrike(seen);
    }

    public boolean known(int n) {
        if (n < ALL || n > sightings.size) {
            return false;
        }
        sightings.knownBy = n;
        return true;
    }

    public int evens(int maker) {
        if (!isMaker(maker)) {
            return NONE;
        }
        workOutLosses(maker);
        return sightings.fitting(maker);
    }

    public int ask(int maker, int n, int what) {
        if (!isMaker(maker) || n < 1 || n > SEEN_DAYS || what < 0 || what > 1) {
            return NONE;
        }
        if (told.ships.size == 0) {
            return CANNOT;
        }
        workOutLosses(maker);
        int left = sightings.fitting(maker);
        int best = 0;
        int bestWorst = sightings.leftAtWorst(maker, left, n, 0);
        for (int ship = 1; ship < told.ships.size; ship++) {
            int worst = sightings.leftAtWorst(maker, left, n, ship);
            if (worst < bestWorst) {
                best = ship;
                bestWorst = worst;
            }
        }
        return what == 0 ? best : bestWorst;
    }

    /** What a MAKER's EVEN would lose hangs on the TEXT alone, so it is worked out once a TEXT. */
    private void workOutLosses(int maker) {
        if (sightings.isWorkedOut[maker]) {
            return;
        }
        for (int even = 0; even < EVEN_VALUES; even++) {
            trial.begin(told);
            course.begin(told, AS_IT_GOES);
            course.otherEvenOf = maker;
            course.otherEven = even;
            for (int behind = 1; behind <= SEEN_DAYS && course.canSail(trial); behind++) {
                course.pass(trial);
                sightings.noteLosses(maker, even, behind, trial, told.ships.size);
            }
        }
        sightings.isWorkedOut[maker] = true;
    }

    public int chance(int seed, int n, int ship) {
        if (seed < 0 || n < 1 || n > CHANCE_DAYS || !isShip(ship)) {
            return NONE;
        }
        long last = seed;
        int lost = 0;
        for (int time = 0; time < CHANCE_TIMES; time++) {
            startTrial(ship, BY_NUMBERS);
            trial.last = last;
            course.passMany(trial, n);
            last = trial.last;
            if (trial.shipIs[ship] == SHIP_LOST) {
                lost++;
            }
        }
        return lost;
    }

    public int tried(int what, int i, int n) {
        boolean isSuch = what == 2 ? isShip(i) : i == 0;
        if (what < 0 || what > 4 || n < 0 || n > GO_MOST || !isSuch) {
            return NONE;
        }
        if (what < 2) {
            startTrial(ALL, what == 0 ? NEVER : ALWAYS);
        } else {
            startTrial(ALL, AS_IT_GOES);
        }
        course.untold = what == 2 ? told.voyagesOf(i, 0, DAY_MOST) : 0;
        course.wears = what != 3;
        course.allEvenNine = what == 4;
        course.passMany(trial, n);
        return countEqual(trial.shipIs, told.ships.size, SHIP_LOST);
    }

    public int undo() {
        return changes.undoLatest(now);
    }

    public int keep() {
        image.copy(now);
        hasImage = true;
        return now.day;
    }

    public int back() {
        if (!hasImage) {
            return NONE;
        }
        now.copy(image);
        changes.forget();
        return now.day;
    }

    public int count(int what) {
        switch (what) {
            case 0:
                return told.makers.size;
            case 1:
                return told.ropes.size;
            case 2:
                return told.ships.size;
            case 3:
                return told.voyages;
            case 4:
                return told.knots();
            case 5:
                return now.day;
            case 12:
                return now.refused;
            case 14:
                return sightings.size;
            case 15:
                return sightings.knownSize();
            case 16:
                return changes.size;
            default:
                return countState(what);
        }
    }

    private int countState(int what) {
        switch (what) {
            case 6:
                return countEqual(now.ropeIs, told.ropes.size, MADE);
            case 7:
                return countEqual(now.ropeIs, told.ropes.size, BROKEN);
            case 8:
                return countEqual(now.ropeIs, told.ropes.size, ROPE_LOST);
            case 9:
                return countEqual(now.shipIs, told.ships.size, SEA);
            case 10:
                return countEqual(now.shipIs, told.ships.size, SHIP_LOST);
            case 11:
                return sum(now.timesHome, told.ships.size);
            case 13:
                return sum(now.sound, told.ropes.size);
            default:
                return NONE;
        }
    }

    private boolean isMaker(int maker) {
        return maker >= 0 && maker < told.makers.size;
    }

    private boolean isRope(int rope) {
        return rope >= 0 && rope < told.ropes.size;
    }

    private boolean isShip(int ship) {
        return ship >= 0 && ship < told.ships.size;
    }

    private static int countEqual(int[] row, int size, int value) {
        int found = 0;
        for (int i = 0; i < size && i < row.length; i++) {
            if (row[i] == value) {
                found++;
            }
        }
        return found;
    }

    private static int sum(int[] row, int size) {
        int sum = 0;
        for (int i = 0; i < size && i < row.length; i++) {
            sum += row[i];
        }
        return sum;
    }

    /** Names of one kind, each packed as named() takes it, numbered as they come. */
    private static final class Names {
        private final int[] letters;
        private int size = 0;

        Names(int most) {
            letters = new int[Math.max(most, 0)];
        }

        boolean isFull() {
            return size >= letters.length;
        }

        int find(int packed) {
            for (int i = 0; i < size; i++) {
                if (letters[i] == packed) {
                    return i;
                }
            }
            return NONE;
        }

        void add(int packed) {
            if (!isFull()) {
                letters[size] = packed;
                size++;
            }
        }
    }

    /** What a TEXT tells. */
    private static final class Told {
        private int lines = 0;
        private final Names makers = new Names(MAKERS_MOST);
        private final int[] thought = new int[MAKERS_MOST];
        private final int[] even = new int[MAKERS_MOST];
        private final Names ropes = new Names(ROPES_MOST);
        private final int[] ropeMaker = new int[ROPES_MOST];
        private final int[] yards = new int[ROPES_MOST];
        private final int[] madeOn = new int[ROPES_MOST];
        private final int[] riggedTo = new int[ROPES_MOST];
        private final Names ships = new Names(SHIPS_MOST);
        private final int[] load = new int[SHIPS_MOST];
        private int voyages = 0;
        private final int[] sailShip = new int[VOYAGES_MOST];
        private final int[] sailOn = new int[VOYAGES_MOST];
        private final int[] sailFor = new int[VOYAGES_MOST];
        private int lastSailOn = NONE;
        private int storm = 0;
        private int seed = 0;
        private final Law[] laws = new Law[LAWS];

        Told() {
            for (int i = 0; i < LAWS; i++) {
                laws[i] = new Law();
            }
        }

        void clear() {
            lines = 0;
            makers.size = 0;
            ropes.size = 0;
            ships.size = 0;
            voyages = 0;
            lastSailOn = NONE;
            storm = 0;
            seed = 0;
            for (int i = 0; i < LAWS; i++) {
                laws[i].size = 0;
            }
        }

        int knots() {
            int knots = 0;
            for (int i = 0; i < LAWS; i++) {
                knots += laws[i].size;
            }
            return knots;
        }

        /** A SHIP's VOYAGES from a DAY on till ahead of another, as bits. */
        int voyagesOf(int ship, int from, int till) {
            int bits = 0;
            for (int i = 0; i < voyages; i++) {
                if (sailShip[i] == ship && sailOn[i] >= from && sailOn[i] < till) {
                    bits |= 1 << i;
                }
            }
            return bits;
        }
    }

    /** A law's E with each sign behind what it joins, so that a row of values works it out. */
    private static final class Law {
        private int size = 0;
        private final int[] kinds = new int[KNOTS_MOST];
        private final int[] numbers = new int[KNOTS_MOST];

        boolean isTold() {
            return size > 0;
        }

        void add(int kind, int number) {
            if (size < KNOTS_MOST) {
                kinds[size] = kind;
                numbers[size] = number;
                size++;
            }
        }

        /** The value of E; ERROR also for a law that isn't told. */
        long value(long[] names, long[] pile) {
            int high = 0;
            for (int i = 0; i < size; i++) {
                int kind = kinds[i];
                int takes = taken(kind);
                if (high < takes || high - takes >= pile.length) {
                    return ERROR;
                }
                high -= takes;
                long value = ERROR;
                if (takes == 2) {
                    value = joined(kind, pile[high], pile[high + 1]);
                } else if (takes == 1) {
                    value = pile[high] == 0 ? 1 : 0;
                } else if (kind == NUMBER) {
                    value = numbers[i];
                } else if (kind >= YARDS && kind - YARDS < names.length) {
                    value = names[kind - YARDS];
                }
                if (value < -VALUE_MOST || value > VALUE_MOST) {
                    return ERROR;
                }
                pile[high] = value;
                high++;
            }
            return high == 1 ? pile[0] : ERROR;
        }

        private static int taken(int kind) {
            if (kind == NOT) {
                return 1;
            }
            return kind == OR || kind == AND || kind >= LESS ? 2 : 0;
        }

        private static long joined(int kind, long a, long b) {
            switch (kind) {
                case PLUS:
                    return a + b;
                case MINUS:
                    return a - b;
                case TIMES:
                    // A product may go beyond a long, so it is looked at ahead.
                    return a != 0 && (b < 0 ? -b : b) > VALUE_MOST / (a < 0 ? -a : a) ? ERROR : a * b;
                case OVER:
                    return b == 0 ? ERROR : a / b;
                case OR:
                    return a != 0 || b != 0 ? 1 : 0;
                case AND:
                    return a != 0 && b != 0 ? 1 : 0;
                case LESS:
                    return a < b ? 1 : 0;
                case LESS_OR_EQUAL:
                    return a <= b ? 1 : 0;
                case EQUAL:
                    return a == b ? 1 : 0;
                case UNEQUAL:
                    return a != b ? 1 : 0;
                case MORE_OR_EQUAL:
                    return a >= b ? 1 : 0;
                case MORE:
                    return a > b ? 1 : 0;
                default:
                    return ERROR;
            }
        }
    }

    /** The TOKENS of a TEXT one by one, and its first FAULT. */
    private static final class Tokens {
        private final int[] words = new int[WORD_COUNT];
        private int[] bytes = new int[0];
        private int length = 0;
        private int at = 0;
        private int kind = END;
        private int place = 0;
        private int value = 0;
        private int faultKind = 0;
        private int faultPlace = NONE;

        Tokens() {
            int word = 0;
            int packed = 0;
            int letters = 0;
            for (int i = 0; i < WORDS.length() && word < WORD_COUNT; i++) {
                if (WORDS.charAt(i) == ' ') {
                    words[word] = filled(packed, letters);
                    word++;
                    packed = 0;
                    letters = 0;
                } else {
                    packed = packed * 32 + WORDS.charAt(i) - 'a' + 1;
                    letters++;
                }
            }
        }

        void begin(int[] row, int size) {
            bytes = row;
            length = Math.min(size, row.length);
            at = 0;
            faultKind = 0;
            faultPlace = NONE;
        }

        /** Always false, so that a reader can leave with it. */
        boolean blame(int what) {
            faultKind = what;
            faultPlace = place;
            return false;
        }

        void step() {
            while (at < length && (bytes[at] == 10 || bytes[at] == 32)) {
                at++;
            }
            place = at;
            value = 0;
            if (at >= length) {
                kind = END;
            } else if (isLetter(bytes[at])) {
                stepWord();
            } else if (isDigit(bytes[at])) {
                stepNumber();
            } else {
                stepSign();
            }
        }

        private void stepWord() {
            int packed = 0;
            int letters = 0;
            while (at < length && isLetter(bytes[at])) {
                if (letters < LETTERS_MOST) {
                    packed = packed * 32 + bytes[at] - 'a' + 1;
                }
                letters++;
                at++;
            }
            value = filled(packed, letters);
            kind = letters > LETTERS_MOST ? NO_TOKEN : wordKind(value);
        }

        private static int filled(int packed, int letters) {
            int full = packed;
            for (int i = letters; i < LETTERS_MOST; i++) {
                full *= 32;
            }
            return full;
        }

        private int wordKind(int packed) {
            for (int i = 0; i < WORD_COUNT; i++) {
                if (words[i] == packed) {
                    return FIRST_WORD + i;
                }
            }
            return OWN_NAME;
        }

        private void stepNumber() {
            kind = NUMBER;
            while (at < length && isDigit(bytes[at])) {
                // No number may be so great: cutting it there keeps it too much and within an int.
                value = Math.min(value * 10 + bytes[at] - '0', 1000000);
                at++;
            }
        }

        private void stepSign() {
            int next = at + 1 < length ? bytes[at + 1] : 0;
            kind = signKind(bytes[at]);
            at++;
            if (kind == LESS && next == '=') {
                kind = LESS_OR_EQUAL;
                at++;
            } else if (kind == LESS && next == '>') {
                kind = UNEQUAL;
                at++;
            } else if (kind == MORE && next == '=') {
                kind = MORE_OR_EQUAL;
                at++;
            }
        }

        private static int signKind(int sign) {
            switch (sign) {
                case ';':
                    return SEMICOLON;
                case '(':
                    return OPEN;
                case ')':
                    return CLOSE;
                case '<':
                    return LESS;
                case '=':
                    return EQUAL;
                case '>':
                    return MORE;
                case '+':
                    return PLUS;
                case '-':
                    return MINUS;
                case '*':
                    return TIMES;
                case '/':
                    return OVER;
                default:
                    return NO_TOKEN;
            }
        }

        private static boolean isLetter(int sign) {
            return sign >= 'a' && sign <= 'z';
        }

        private static boolean isDigit(int sign) {
            return sign >= '0' && sign <= '9';
        }
    }

    /** Reads a TEXT line by line; each FAULT is found at its own place, so the first found is the first. */
    private static final class TextReader {
        private final Tokens tokens = new Tokens();
        private final LawReader lawReader = new LawReader();
        // A TEXT with a FAULT must leave the one ahead as it is: there are two, used by turns.
        private Told told = new Told();
        private boolean isStormTold = false;
        private boolean isSeedTold = false;

        int faultKind() {
            return tokens.faultKind;
        }

        int faultPlace() {
            return tokens.faultPlace;
        }

        /** What was read; what was told ahead is read into next time. */
        Told exchange(Told old) {
            Told read = told;
            told = old;
            return read;
        }

        boolean readAll(int[] bytes, int length) {
            told.clear();
            isStormTold = false;
            isSeedTold = false;
            tokens.begin(bytes, length);
            for (int i = 0; i <= length; i++) {
                tokens.step();
                if (tokens.kind == END) {
                    return true;
                }
                // An E finds its end by the ';' itself.
                boolean isRead = tokens.kind == LAW ? readLaw() : readLine() && readSemicolon();
                if (!isRead) {
                    return false;
                }
                told.lines++;
            }
            return true;
        }

        private boolean readLine() {
            switch (tokens.kind) {
                case MAKER:
                    return readMaker();
                case ROPE:
                    return readRope();
                case SHIP:
                    return readShip();
                case RIG:
                    return readRig();
                case SAIL:
                    return readSail();
                case STORM:
                    return readStorm();
                case SEED:
                    return readSeed();
                default:
                    return tokens.blame(MISPLACED);
            }
        }

        private boolean readMaker() {
            int maker = told.makers.size;
            if (!readNewName(told.makers) || !readNumber(0, 9)) {
                return false;
            }
            told.thought[maker] = tokens.value;
            if (!readNumber(0, 9)) {
                return false;
            }
            told.even[maker] = tokens.value;
            return true;
        }

        private boolean readRope() {
            int rope = told.ropes.size;
            if (!readNewName(told.ropes) || !readToldName(told.makers)) {
                return false;
            }
            told.riggedTo[rope] = NONE;
            told.ropeMaker[rope] = told.makers.find(tokens.value);
            if (!readNumber(1, 99)) {
                return false;
            }
            told.yards[rope] = tokens.value;
            if (!readNumber(0, 99)) {
                return false;
            }
            told.madeOn[rope] = tokens.value;
            return true;
        }

        private boolean readShip() {
            int ship = told.ships.size;
            if (!readNewName(told.ships) || !readNumber(0, 999)) {
                return false;
            }
            told.load[ship] = tokens.value;
            return true;
        }

        private boolean readRig() {
            if (!readToldName(told.ropes)) {
                return false;
            }
            int rope = told.ropes.find(tokens.value);
            if (told.riggedTo[rope] != NONE) {
                return tokens.blame(TOLD_ALREADY);
            }
            if (!readToldName(told.ships)) {
                return false;
            }
            told.riggedTo[rope] = told.ships.find(tokens.value);
            return true;
        }

        private boolean readSail() {
            int voyage = told.voyages;
            if (voyage >= VOYAGES_MOST) {
                return tokens.blame(TOO_MUCH);
            }
            if (!readToldName(told.ships)) {
                return false;
            }
            told.sailShip[voyage] = told.ships.find(tokens.value);
            if (!readNumber(0, 99)) {
                return false;
            }
            told.sailOn[voyage] = tokens.value;
            if (!readNumber(1, SAIL_MOST)) {
                return false;
            }
            told.sailFor[voyage] = tokens.value;
            told.lastSailOn = Math.max(told.lastSailOn, told.sailOn[voyage]);
            told.voyages++;
            return true;
        }

        private boolean readStorm() {
            if (isStormTold) {
                return tokens.blame(TOLD_ALREADY);
            }
            if (!readNumber(0, HUNDRED)) {
                return false;
            }
            told.storm = tokens.value;
            isStormTold = true;
            return true;
        }

        private boolean readSeed() {
            if (isSeedTold) {
                return tokens.blame(TOLD_ALREADY);
            }
            if (!readNumber(0, 99999)) {
                return false;
            }
            told.seed = tokens.value;
            isSeedTold = true;
            return true;
        }

        private boolean readLaw() {
            tokens.step();
            if (tokens.kind < TWIST || tokens.kind > PULL) {
                return tokens.blame(MISPLACED);
            }
            Law law = told.laws[tokens.kind - TWIST];
            if (law.isTold()) {
                return tokens.blame(TOLD_ALREADY);
            }
            return lawReader.readInto(law, tokens, told.knots());
        }

        /** Called while the word of the LINE is the TOKEN: one LINE too many is told there. */
        private boolean readNewName(Names names) {
            if (names.isFull()) {
                return tokens.blame(TOO_MUCH);
            }
            tokens.step();
            if (tokens.kind != OWN_NAME) {
                return tokens.blame(MISPLACED);
            }
            if (names.find(tokens.value) != NONE) {
                return tokens.blame(TOLD_ALREADY);
            }
            names.add(tokens.value);
            return true;
        }

        private boolean readToldName(Names names) {
            tokens.step();
            if (tokens.kind != OWN_NAME) {
                return tokens.blame(MISPLACED);
            }
            return names.find(tokens.value) != NONE || tokens.blame(NOT_TOLD);
        }

        private boolean readNumber(int least, int most) {
            tokens.step();
            if (tokens.kind != NUMBER) {
                return tokens.blame(MISPLACED);
            }
            return (tokens.value >= least && tokens.value <= most) || tokens.blame(TOO_MUCH);
        }

        private boolean readSemicolon() {
            tokens.step();
            return tokens.kind == SEMICOLON || tokens.blame(MISPLACED);
        }
    }

    /** Reads an E by the ranks of its signs, each held till what stands behind it is read. */
    private static final class LawReader {
        private static final int COMPARING = 4;
        private final int[] held = new int[KNOTS_MOST + OPEN_MOST];
        private final int[] heldRank = new int[KNOTS_MOST + OPEN_MOST];
        private int heldSize = 0;
        private int open = 0;
        private int knots = 0;
        private boolean isValueDue = true;
        private boolean mayNegate = true;

        boolean readInto(Law law, Tokens tokens, int knotsAhead) {
            heldSize = 0;
            open = 0;
            knots = knotsAhead;
            isValueDue = true;
            mayNegate = true;
            for (int i = 0; i <= tokens.length; i++) {
                tokens.step();
                boolean isTaken;
                if (isValueDue) {
                    isTaken = takeValue(law, tokens);
                } else if (tokens.kind == CLOSE || tokens.kind == SEMICOLON) {
                    isTaken = takeClosing(law, tokens);
                } else {
                    isTaken = takeSign(law, tokens);
                }
                if (!isTaken || tokens.kind == SEMICOLON) {
                    return isTaken;
                }
            }
            return tokens.blame(MISPLACED);
        }

        private boolean takeValue(Law law, Tokens tokens) {
            int kind = tokens.kind;
            if (kind == OPEN) {
                return takeOpen(tokens);
            }
            if (kind == NOT && mayNegate) {
                return holdKnot(tokens);
            }
            boolean isValue = kind == NUMBER || (kind >= YARDS && kind <= DAY);
            if (!isValue) {
                return tokens.blame(MISPLACED);
            }
            if (knots >= KNOTS_MOST || (kind == NUMBER && tokens.value > 9999)) {
                return tokens.blame(TOO_MUCH);
            }
            knots++;
            law.add(kind, tokens.value);
            isValueDue = false;
            return true;
        }

        private boolean takeOpen(Tokens tokens) {
            if (open >= OPEN_MOST) {
                return tokens.blame(TOO_MUCH);
            }
            open++;
            hold(OPEN);
            mayNegate = true;
            return true;
        }

        private boolean takeSign(Law law, Tokens tokens) {
            int kind = tokens.kind;
            int rank = rank(kind);
            if (rank == 0 || kind == NOT) {
                return tokens.blame(MISPLACED);
            }
            release(law, rank == COMPARING ? COMPARING + 1 : rank);
            boolean isCompared = heldSize > 0 && heldRank[heldSize - 1] == COMPARING;
            if (rank == COMPARING && isCompared) {
                return tokens.blame(MISPLACED);
            }
            isValueDue = true;
            mayNegate = kind == OR || kind == AND;
            return holdKnot(tokens);
        }

        /** A ')' must have its '(', and a ';' must have none open. */
        private boolean takeClosing(Law law, Tokens tokens) {
            boolean isClose = tokens.kind == CLOSE;
            if (isClose == (open == 0)) {
                return tokens.blame(MISPLACED);
            }
            release(law, 1);
            if (isClose) {
                heldSize--;
                open--;
            }
            return true;
        }

        private boolean holdKnot(Tokens tokens) {
            if (knots >= KNOTS_MOST) {
                return tokens.blame(TOO_MUCH);
            }
            knots++;
            hold(tokens.kind);
            return true;
        }

        private void hold(int kind) {
            if (heldSize < held.length) {
                held[heldSize] = kind;
                heldRank[heldSize] = rank(kind);
                heldSize++;
            }
        }

        private void release(Law law, int leastRank) {
            while (heldSize > 0 && heldRank[heldSize - 1] >= leastRank) {
                heldSize--;
                law.add(held[heldSize], 0);
            }
        }

        private static int rank(int kind) {
            switch (kind) {
                case OR:
                    return 1;
                case AND:
                    return 2;
                case NOT:
                    return 3;
                case PLUS:
                case MINUS:
                    return COMPARING + 1;
                case TIMES:
                case OVER:
                    return COMPARING + 2;
                default:
                    return kind >= LESS && kind <= MORE ? COMPARING : 0;
            }
        }
    }

    /** What DAYS and calls change. */
    private static final class State {
        private int day = 0;
        private long last = 0;
        private int refused = 0;
        private final int[] ropeIs = new int[ROPES_MOST];
        private final int[] sound = new int[ROPES_MOST];
        private final int[] within = new int[ROPES_MOST];
        private final int[] shipIs = new int[SHIPS_MOST];
        private final int[] daysLeft = new int[SHIPS_MOST];
        private final int[] timesHome = new int[SHIPS_MOST];

        void begin(Told told) {
            day = 0;
            last = told.seed;
            refused = 0;
            for (int rope = 0; rope < ROPES_MOST; rope++) {
                ropeIs[rope] = TO_COME;
                sound[rope] = 0;
                within[rope] = rope < told.ropes.size ? told.riggedTo[rope] : NONE;
            }
            for (int ship = 0; ship < SHIPS_MOST; ship++) {
                shipIs[ship] = HARBOUR;
                daysLeft[ship] = 0;
                timesHome[ship] = 0;
            }
        }

        void copy(State from) {
            day = from.day;
            last = from.last;
            refused = from.refused;
            System.arraycopy(from.ropeIs, 0, ropeIs, 0, ROPES_MOST);
            System.arraycopy(from.sound, 0, sound, 0, ROPES_MOST);
            System.arraycopy(from.within, 0, within, 0, ROPES_MOST);
            System.arraycopy(from.shipIs, 0, shipIs, 0, SHIPS_MOST);
            System.arraycopy(from.daysLeft, 0, daysLeft, 0, SHIPS_MOST);
            System.arraycopy(from.timesHome, 0, timesHome, 0, SHIPS_MOST);
        }

        int bear(int ship) {
            int bear = 0;
            for (int rope = 0; rope < ROPES_MOST; rope++) {
                if (within[rope] == ship && ropeIs[rope] == MADE) {
                    bear += sound[rope];
                }
            }
            return bear;
        }

        int ropesWithin(int ship) {
            int bits = 0;
            for (int rope = 0; rope < ROPES_MOST; rope++) {
                if (within[rope] == ship) {
                    bits |= 1 << rope;
                }
            }
            return bits;
        }

        boolean isFree(int rope) {
            return ropeIs[rope] == MADE && within[rope] == NONE;
        }

        void putToSea(int ship, int days) {
            shipIs[ship] = SEA;
            daysLeft[ship] = days;
        }

        void spendDay(int ship) {
            daysLeft[ship]--;
            if (daysLeft[ship] == 0) {
                shipIs[ship] = HARBOUR;
                timesHome[ship]++;
            }
        }

        /** The next number. */
        int draw() {
            last = (last * 1103515245L + 12345L) & 0x7fffffffL;
            return (int) (last / 65536);
        }
    }

    /** How DAYS go by, as told or with something otherwise. */
    private static final class Days {
        private final long[] names = new long[NAME_COUNT];
        private final long[] pile = new long[KNOTS_MOST];
        private final int[] yardsByThought = new int[THOUGHT_VALUES];
        private Told told;
        private int storms = AS_IT_GOES;
        // stormy without numbers; ropes are made ahead of a DAY's number, so twist always goes by this.
        private int plainStormy = 0;
        private int untold = 0;
        private int sailed = 0;
        private int onlyShip = ALL;
        private boolean wears = true;
        private boolean allEvenNine = false;
        private int otherEvenOf = NONE;
        private int otherEven = 0;

        Days(Told by) {
            told = by;
        }

        /** Nothing otherwise than told, till a caller sets it so. */
        void begin(Told by, int stormsBy) {
            told = by;
            storms = stormsBy;
            boolean isAsItGoes = stormsBy == BY_NUMBERS || stormsBy == AS_IT_GOES;
            plainStormy = stormsBy == ALWAYS || (isAsItGoes && 2 * by.storm >= HUNDRED) ? 1 : 0;
            untold = 0;
            sailed = 0;
            onlyShip = ALL;
            wears = true;
            allEvenNine = false;
            otherEvenOf = NONE;
            otherEven = 0;
        }

        void passMany(State state, int n) {
            for (int i = 0; i < n; i++) {
                pass(state);
            }
        }

        void pass(State state) {
            for (int rope = 0; rope < told.ropes.size; rope++) {
                if (isDue(state, rope)) {
                    make(state, rope);
                }
            }
            startVoyages(state);
            int stormy = isStormy(state) ? 1 : 0;
            for (int ship = 0; ship < told.ships.size; ship++) {
                if (state.shipIs[ship] != SEA || !isWanted(ship)) {
                    continue;
                }
                int plain = (1 + stormy) * told.load[ship];
                if (state.bear(ship) < cut(pull(state, ship, stormy), 9999, plain)) {
                    lose(state, ship);
                } else {
                    wearRopes(state, ship, stormy);
                    state.spendDay(ship);
                }
            }
            state.day++;
        }

        /** Whether a SHIP is at SEA or may be yet; without, none is LOST any more and none comes HOME. */
        boolean canSail(State state) {
            for (int ship = 0; ship < told.ships.size; ship++) {
                boolean mayYet = state.shipIs[ship] == HARBOUR && state.day <= told.lastSailOn;
                if ((mayYet || state.shipIs[ship] == SEA) && isWanted(ship)) {
                    return true;
                }
            }
            return false;
        }

        private boolean isWanted(int ship) {
            return onlyShip == ALL || onlyShip == ship;
        }

        private boolean isDue(State state, int rope) {
            boolean isOfToday = told.madeOn[rope] == state.day && state.ropeIs[rope] == TO_COME;
            return isOfToday && isWanted(state.within[rope]);
        }

        void make(State state, int rope) {
            int plain = 10 * even(told.ropeMaker[rope]) + told.yards[rope];
            state.sound[rope] = cut(twist(state, rope), 999, plain);
            state.ropeIs[rope] = MADE;
        }

        private void startVoyages(State state) {
            for (int voyage = 0; voyage < told.voyages; voyage++) {
                int ship = told.sailShip[voyage];
                boolean isDue = told.sailOn[voyage] == state.day && (untold >> voyage & 1) == 0;
                if (!isDue || !isWanted(ship)) {
                    continue;
                }
                if (state.shipIs[ship] == HARBOUR) {
                    state.putToSea(ship, told.sailFor[voyage]);
                    sailed |= 1 << voyage;
                } else {
                    state.refused++;
                }
            }
        }

        private boolean isStormy(State state) {
            if (storms != BY_NUMBERS) {
                return plainStormy != 0;
            }
            if (told.storm <= 0 || told.storm >= HUNDRED) {
                return told.storm >= HUNDRED;
            }
            return state.draw() % HUNDRED < told.storm;
        }

        private void lose(State state, int ship) {
            state.shipIs[ship] = SHIP_LOST;
            state.daysLeft[ship] = 0;
            for (int rope = 0; rope < told.ropes.size; rope++) {
                if (state.within[rope] == ship && state.ropeIs[rope] == MADE) {
                    state.ropeIs[rope] = ROPE_LOST;
                }
            }
        }

        private void wearRopes(State state, int ship, int stormy) {
            for (int rope = 0; wears && rope < told.ropes.size; rope++) {
                if (state.within[rope] == ship && state.ropeIs[rope] == MADE) {
                    state.sound[rope] -= cut(wear(state, rope, stormy), 99, 1 + 2 * stormy);
                    if (state.sound[rope] <= 0) {
                        state.sound[rope] = 0;
                        state.ropeIs[rope] = BROKEN;
                    }
                }
            }
        }

        /** A law's value cut to 0 .. most; the plain one without a law or with an ERROR. */
        private static int cut(long value, int most, int plain) {
            if (value == ERROR) {
                return plain;
            }
            return (int) Math.max(0, Math.min(value, most));
        }

        long twist(State state, int rope) {
            Law law = told.laws[TWIST_LAW];
            if (law.isTold()) {
                setRopeNames(state, rope, plainStormy);
                names[SOUND_NAME] = 0;
            }
            return law.value(names, pile);
        }

        long wear(State state, int rope, int stormy) {
            Law law = told.laws[WEAR_LAW];
            if (law.isTold()) {
                setRopeNames(state, rope, stormy);
            }
            return law.value(names, pile);
        }

        private void setRopeNames(State state, int rope, int stormy) {
            int maker = told.ropeMaker[rope];
            int ship = state.within[rope];
            names[YARDS_NAME] = told.yards[rope];
            names[EVEN_NAME] = even(maker);
            names[THINK_NAME] = told.thought[maker];
            names[SOUND_NAME] = state.sound[rope];
            names[BEAR_NAME] = ship == NONE ? 0 : state.bear(ship);
            names[STORMY_NAME] = stormy;
            names[DAY_NAME] = state.day;
        }

        long pull(State state, int ship, int stormy) {
            Law law = told.laws[PULL_LAW];
            if (law.isTold()) {
                names[YARDS_NAME] = 0;
                names[EVEN_NAME] = 0;
                names[THINK_NAME] = mood(told, state, ship);
                names[SOUND_NAME] = told.load[ship];
                names[BEAR_NAME] = state.bear(ship);
                names[STORMY_NAME] = stormy;
                names[DAY_NAME] = state.day;
            }
            return law.value(names, pile);
        }

        private int even(int maker) {
            if (allEvenNine) {
                return 9;
            }
            return maker == otherEvenOf ? otherEven : told.even[maker];
        }

        int mood(Told by, State state, int ship) {
            for (int thought = 0; thought < THOUGHT_VALUES; thought++) {
                yardsByThought[thought] = 0;
            }
            for (int rope = 0; rope < by.ropes.size; rope++) {
                if (state.within[rope] == ship && state.ropeIs[rope] == MADE) {
                    yardsByThought[by.thought[by.ropeMaker[rope]]] += by.yards[rope];
                }
            }
            int mood = 0;
            for (int thought = 1; thought < THOUGHT_VALUES; thought++) {
                if (yardsByThought[thought] > yardsByThought[mood]) {
                    mood = thought;
                }
            }
            return mood;
        }
    }

    /** What was SEEN and STRUCK, and which losses each EVEN of a MAKER would bring. */
    private static final class Sightings {
        private int size = 0;
        private int knownBy = ALL;
        private final int[] daysBehind = new int[SEEN_MOST];
        private final int[] ofShip = new int[SEEN_MOST];
        private final boolean[] isLost = new boolean[SEEN_MOST];
        // NONE for what is no STRIKE.
        private final int[] strikes = new int[SEEN_MOST];
        private final boolean[] isStruck = new boolean[SEEN_MOST];
        private final boolean[] isWorkedOut = new boolean[MAKERS_MOST];
        // Behind how many DAYS a SHIP is LOST, 0 for not at all.
        private final int[] lostBehind = new int[MAKERS_MOST * EVEN_VALUES * SHIPS_MOST];

        void forget() {
            size = 0;
            knownBy = ALL;
            for (int maker = 0; maker < MAKERS_MOST; maker++) {
                isWorkedOut[maker] = false;
            }
            for (int i = 0; i < lostBehind.length; i++) {
                lostBehind[i] = 0;
            }
        }

        int knownSize() {
            return knownBy == ALL ? size : knownBy;
        }

        int addSight(int days, int ship, boolean lost) {
            if (size >= SEEN_MOST) {
                return NONE;
            }
            daysBehind[size] = days;
            ofShip[size] = ship;
            isLost[size] = lost;
            strikes[size] = NONE;
            size++;
            return size - 1;
        }

        int addStrike(int seen) {
            if (seen < 0 || seen >= size || size >= SEEN_MOST) {
                return NONE;
            }
            strikes[size] = seen;
            size++;
            return size - 1;
        }

        private static int cell(int maker, int even, int ship) {
            return (maker * EVEN_VALUES + even) * SHIPS_MOST + ship;
        }

        void noteLosses(int maker, int even, int behind, State state, int ships) {
            for (int ship = 0; ship < ships; ship++) {
                int cell = cell(maker, even, ship);
                if (lostBehind[cell] == 0 && state.shipIs[ship] == SHIP_LOST) {
                    lostBehind[cell] = behind;
                }
            }
        }

        private boolean isLostBy(int maker, int even, int ship, int behind) {
            int lost = lostBehind[cell(maker, even, ship)];
            return lost != 0 && lost <= behind;
        }

        /** A STRIKE only strikes what was there ahead of it, so from the last on each is settled once. */
        private void settleStrikes(int known) {
            for (int i = 0; i < known; i++) {
                isStruck[i] = false;
            }
            for (int i = known - 1; i >= 0; i--) {
                if (!isStruck[i] && strikes[i] != NONE) {
                    isStruck[strikes[i]] = true;
                }
            }
        }

        /** EVENS of a MAKER whose losses are worked out. */
        int fitting(int maker) {
            int known = knownSize();
            settleStrikes(known);
            int bits = 0;
            for (int even = 0; even < EVEN_VALUES; even++) {
                if (isFitting(maker, even, known)) {
                    bits |= 1 << even;
                }
            }
            return bits;
        }

        private boolean isFitting(int maker, int even, int known) {
            for (int i = 0; i < known; i++) {
                boolean counts = !isStruck[i] && strikes[i] == NONE;
                if (counts && isLostBy(maker, even, ofShip[i], daysBehind[i]) != isLost[i]) {
                    return false;
                }
            }
            return true;
        }

        int leftAtWorst(int maker, int evens, int behind, int ship) {
            int lost = 0;
            for (int even = 0; even < EVEN_VALUES; even++) {
                if ((evens >> even & 1) != 0 && isLostBy(maker, even, ship, behind)) {
                    lost++;
                }
            }
            return Math.max(lost, Integer.bitCount(evens) - lost);
        }
    }

    /** What calls have changed since the DAY began: how a ROPE was ahead, or which SHIP put to sea. */
    private static final class Changes {
        private int size = 0;
        private final int[] ropes = new int[UNDO_MOST];
        private final int[] ropeWas = new int[UNDO_MOST];
        private final int[] soundWas = new int[UNDO_MOST];
        private final int[] withinWas = new int[UNDO_MOST];
        private final int[] ships = new int[UNDO_MOST];

        void forget() {
            size = 0;
        }

        void noteRope(State state, int rope) {
            makeRoom();
            ropes[size] = rope;
            ropeWas[size] = state.ropeIs[rope];
            soundWas[size] = state.sound[rope];
            withinWas[size] = state.within[rope];
            size++;
        }

        void noteShip(int ship) {
            makeRoom();
            ropes[size] = NONE;
            ships[size] = ship;
            size++;
        }

        /** The oldest goes, if there are as many as may be. */
        private void makeRoom() {
            if (size < UNDO_MOST) {
                return;
            }
            size = UNDO_MOST - 1;
            System.arraycopy(ropes, 1, ropes, 0, size);
            System.arraycopy(ropeWas, 1, ropeWas, 0, size);
            System.arraycopy(soundWas, 1, soundWas, 0, size);
            System.arraycopy(withinWas, 1, withinWas, 0, size);
            System.arraycopy(ships, 1, ships, 0, size);
        }

        int undoLatest(State state) {
            if (size == 0) {
                return NONE;
            }
            size--;
            int rope = ropes[size];
            if (rope == NONE) {
                state.shipIs[ships[size]] = HARBOUR;
                state.daysLeft[ships[size]] = 0;
            } else {
                state.ropeIs[rope] = ropeWas[size];
                state.sound[rope] = soundWas[size];
                state.within[rope] = withinWas[size];
            }
            return size;
        }
    }

    /** ALLOT: all ways in the document's order, but those that can't be better than the best so far. */
    private static final class Allotment {
        private final int[] ropes = new int[ALLOT_MOST];
        private final int[] sounds = new int[ALLOT_MOST];
        private int ropeCount = 0;
        private final int[] ships = new int[SHIPS_MOST];
        // What a SHIP's BEAR is above its LOAD, below 0 if it isn't borne.
        private final int[] spare = new int[SHIPS_MOST];
        private int shipCount = 0;
        private final int[] choice = new int[ALLOT_MOST];
        private final int[] best = new int[ALLOT_MOST];
        private int borne = 0;
        private int put = 0;
        private int bestBorne = 0;
        private int bestPut = 0;

        void solve(Told told, State state) {
            gather(told, state);
            put = 0;
            bestBorne = NONE;
            bestPut = 0;
            place(0);
        }

        private void gather(Told told, State state) {
            ropeCount = 0;
            for (int rope = 0; rope < told.ropes.size && ropeCount < ALLOT_MOST; rope++) {
                if (state.isFree(rope)) {
                    ropes[ropeCount] = rope;
                    sounds[ropeCount] = state.sound[rope];
                    ropeCount++;
                }
            }
            shipCount = 0;
            borne = 0;
            for (int ship = 0; ship < told.ships.size; ship++) {
                if (state.shipIs[ship] == HARBOUR) {
                    ships[shipCount] = ship;
                    spare[shipCount] = state.bear(ship) - told.load[ship];
                    borne += spare[shipCount] >= 0 ? 1 : 0;
                    shipCount++;
                }
            }
        }

        private void place(int k) {
            int canBeBorne = Math.min(shipCount, borne + ropeCount - k);
            if (canBeBorne < bestBorne || (canBeBorne == bestBorne && put >= bestPut)) {
                return;
            }
            if (k >= ropeCount) {
                bestBorne = borne;
                bestPut = put;
                System.arraycopy(choice, 0, best, 0, ALLOT_MOST);
                return;
            }
            for (int i = 0; i < shipCount; i++) {
                choice[k] = ships[i];
                load(i, sounds[k]);
                place(k + 1);
                load(i, -sounds[k]);
            }
            choice[k] = CANNOT;
            place(k + 1);
        }

        private void load(int i, int sound) {
            borne -= spare[i] >= 0 ? 1 : 0;
            spare[i] += sound;
            borne += spare[i] >= 0 ? 1 : 0;
            put += sound;
        }

        int shipOf(int rope) {
            for (int k = 0; k < ropeCount; k++) {
                if (ropes[k] == rope) {
                    return best[k];
                }
            }
            return CANNOT;
        }
    }
}
