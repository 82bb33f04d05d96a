/** Rule by a portrait while it is painted; ../shared/DOC.md says what every call promises. */
public final class PortraitRule {
    public static final int NONE = -6, UNKNOWN = -1, OUTSIDE = -2, STATE = -3, FULL = -4, NO = -5;
    public static final long LOST = -1000000000000000000L;

    /** So many PARTS, POWERS and ACTS there are. */
    private static final int EIGHT = 8;
    /** So many sets of eight there are, and the set of all of them. */
    private static final int SETS = 256, ALL = 255;
    private static final int MOST_HOURS = 9, MOST_SIGNS = 60, MOST_SIGHTS = 8, MOST_SIGHT_STEPS = 60;
    private static final int COLONIES = 4, IMAGES = 2;
    private static final int FIRST_SIGN = 33, LAST_SIGN = 126;
    private static final int MOST_FEVER_HOURS = 8, TENTHS = 10;
    private static final int MOST_SEED = 9999, MOST_YEAR_STEPS = 99;
    private static final int DRAW_TIMES = 75, DRAW_MORE = 74, DRAW_BY = 65537;
    /** Far above the divisions that two numbers under 2^63 need for their common divisor. */
    private static final int MOST_DIVISIONS = 200;

    /** What a sign, or a STEP, is. */
    private static final int NOTHING = 0, PAINT = 1, OVER = 2, SIT = 3, MAKE = 4;

    private final Realm now = new Realm();
    /** Reigns, years and fevers are tried here, so that nothing is done in fact. */
    private final Realm trial = new Realm();
    private final Realm firstImage = new Realm();
    private final Realm secondImage = new Realm();
    private final Pad pad = new Pad();
    /** A number for each set of PARTS; made once, since a row for each call would fill the room. */
    private final int[] bySet = new int[SETS];
    private boolean firstKept;
    private boolean secondKept;
    /** Of the last REIGN that was tried: why its first STEP that can not be can not (0: all can; NO: a FAULT). */
    private int reason;
    /** Of the last REIGN that was tried: STEPS that were taken. */
    private int stepsTaken;

    public PortraitRule() {
    }

    // ---- 1 parts, acts, reigns

    public int part(int part, int hours, int under, int gives) {
        if (!isOfEight(part)) {
            return UNKNOWN;
        }
        boolean lesserAlone = under >= 0 && under < (1 << part);
        if (hours < 1 || hours > MOST_HOURS || !lesserAlone || !isSet(gives)) {
            return OUTSIDE;
        }
        int before = now.hours[part];
        now.unpaint(now.withAllAbove(part));
        now.hours[part] = hours;
        now.under[part] = under;
        now.gives[part] = gives;
        return before;
    }

    public int needs(int act, int powers) {
        if (!isOfEight(act)) {
            return UNKNOWN;
        }
        if (!isSet(powers)) {
            return OUTSIDE;
        }
        int before = now.needed[act];
        now.needed[act] = powers;
        now.inForce &= ~(1 << act);
        return before;
    }

    public int say(int sign) {
        if (sign < FIRST_SIGN || sign > LAST_SIGN) {
            return OUTSIDE;
        }
        if (pad.count >= MOST_SIGNS) {
            return FULL;
        }
        pad.write(sign);
        return pad.count;
    }

    public int wipe() {
        int before = pad.count;
        pad.count = 0;
        return before;
    }

    public int fault() {
        return pad.firstFault();
    }

    // ---- 2 reigns

    public int judge(int what) {
        if (!isEitherOne(what)) {
            return OUTSIDE;
        }
        tryReign();
        if (reason == NO) {
            return NO;
        }
        if (reason == 0) {
            return NONE;
        }
        return what == 0 ? stepsTaken : reason;
    }

    public int done() {
        tryReign();
        if (reason != 0) {
            return NO;
        }
        now.copyFrom(trial);
        pad.count = 0;
        return stepsTaken;
    }

    public int state(int what) {
        if (what < 0 || what > 3) {
            return OUTSIDE;
        }
        return now.tellState(what);
    }

    public int behind(int what) {
        if (what < 0 || what > 5) {
            return OUTSIDE;
        }
        tryReign();
        if (reason != 0) {
            return NO;
        }
        if (what == 4) {
            return trial.hoursPainted;
        }
        if (what == 5) {
            return trial.actsRepealed;
        }
        return trial.tellState(what);
    }

    public int can() {
        int acts = 0;
        for (int act = 0; act < EIGHT; act++) {
            if (now.whyNot(MAKE, act) == 0) {
                acts |= 1 << act;
            }
        }
        return acts;
    }

    public int lacks(int act, int what) {
        if (!isOfEight(act)) {
            return UNKNOWN;
        }
        if (!isEitherOne(what)) {
            return OUTSIDE;
        }
        return tellPlan(cheapestPlan(1 << act, 0), what);
    }

    // ---- 3 plans, bars

    public int plan(int wanted, int not, int what) {
        if (!isSet(wanted) || !isSet(not) || (wanted & not) != 0 || !isEitherOne(what)) {
            return OUTSIDE;
        }
        return tellPlan(cheapestPlan(wanted, not), what);
    }

    public int orders() {
        clearBySet();
        bySet[now.doneParts()] = 1;
        for (int set = 0; set < ALL; set++) {
            for (int part = 0; part < EIGHT; part++) {
                if (now.canFinish(part, set)) {
                    bySet[set | 1 << part] += bySet[set];
                }
            }
        }
        return bySet[ALL];
    }

    public int bar(int act, int what) {
        if (!isOfEight(act)) {
            return UNKNOWN;
        }
        if (!isEitherOne(what)) {
            return OUTSIDE;
        }
        return tellFewest(fewestToBar(act), what);
    }

    public int falls(int part, int what) {
        if (!isOfEight(part)) {
            return UNKNOWN;
        }
        if (!isEitherOne(what)) {
            return OUTSIDE;
        }
        int falling = now.withAllAbove(part) & now.paintedParts();
        if (what == 0) {
            return falling;
        }
        int done = now.doneParts();
        return now.powersOf(done) & ~now.powersOf(done & ~falling);
    }

    public int alone(int act) {
        if (!isOfEight(act)) {
            return UNKNOWN;
        }
        return now.partsThatGive(now.needed[act]);
    }

    public int guard(int act, int what) {
        if (!isOfEight(act)) {
            return UNKNOWN;
        }
        if (!isEitherOne(what)) {
            return OUTSIDE;
        }
        return tellFewest(fewestToGuard(act), what);
    }

    // ---- 4 hidden pictures, colonies

    public int seen(int steps, int act, boolean could) {
        if (!isOfEight(act)) {
            return UNKNOWN;
        }
        if (steps < 0 || steps > MOST_SIGHT_STEPS) {
            return OUTSIDE;
        }
        if (now.sights >= MOST_SIGHTS) {
            return FULL;
        }
        now.addSight(steps, act, could);
        return now.sights;
    }

    public int forget() {
        int before = now.sights;
        now.sights = 0;
        return before;
    }

    public int hidden(int what) {
        if (what < 0 || what > 2) {
            return OUTSIDE;
        }
        findHidden();
        if (what == 0) {
            return countHidden();
        }
        return what == 1 ? partsInAllHidden() : partsInSomeHidden();
    }

    public int tries(int what) {
        if (!isEitherOne(what)) {
            return OUTSIDE;
        }
        findHidden();
        int pictures = countHidden();
        if (pictures == 0) {
            return NONE;
        }
        int best = 0;
        int fewestLeft = mostLeftBy(0, pictures);
        for (int act = 1; act < EIGHT; act++) {
            int left = mostLeftBy(act, pictures);
            if (left < fewestLeft) {
                best = act;
                fewestLeft = left;
            }
        }
        return what == 0 ? best : fewestLeft;
    }

    public int send(int colony) {
        if (!isColony(colony)) {
            return UNKNOWN;
        }
        int powers = now.powersOf(now.doneParts());
        now.colonies[colony] = powers;
        return powers;
    }

    public int makes(int colony) {
        if (!isColony(colony)) {
            return UNKNOWN;
        }
        return now.actsWithin(now.colonies[colony]);
    }

    public int quarrel(int one, int other) {
        if (!isColony(one) || !isColony(other) || one == other) {
            return UNKNOWN;
        }
        return now.actsWithin(now.colonies[one]) ^ now.actsWithin(now.colonies[other]);
    }

    public int sent() {
        int powers = now.powersOf(now.doneParts());
        boolean same = true;
        int others = 0;
        for (int colony = 0; colony < COLONIES; colony++) {
            if (now.colonies[colony] != now.colonies[0]) {
                same = false;
            }
            if (now.colonies[colony] != powers) {
                others++;
            }
        }
        return same ? 0 : others;
    }

    public int turns(int act, int what) {
        if (!isOfEight(act)) {
            return UNKNOWN;
        }
        if (!isEitherOne(what)) {
            return OUTSIDE;
        }
        int done = now.doneParts();
        if (now.givesAll(done, act) || !now.givesAll(ALL, act)) {
            return NONE;
        }
        findWinningParts(act);
        int winning = bySet[done];
        if (what == 1) {
            return winning;
        }
        return winning == NONE ? 1 : 0;
    }

    public long fever(int act, int m, int t, int what, int part) {
        if (!isOfEight(act)) {
            return LOST + UNKNOWN;
        }
        boolean hoursFit = m >= 0 && m <= MOST_FEVER_HOURS;
        boolean tenthsFit = t >= 0 && t <= TENTHS;
        if (!hoursFit || !tenthsFit || !isEitherOne(what) || !isEitherOne(part)) {
            return LOST + OUTSIDE;
        }
        long upper = what == 0 ? feverChances(act, m, t) : feverHours(m, t);
        long lower = power(TENTHS, m);
        long common = commonDivisor(upper, lower);
        if (common == 0) {
            return 0;
        }
        return (part == 0 ? upper : lower) / common;
    }

    public int year(int seed, int m, int what) {
        boolean seedFits = seed >= 0 && seed <= MOST_SEED;
        if (!seedFits || m < 1 || m > MOST_YEAR_STEPS || what < 0 || what > 2) {
            return OUTSIDE;
        }
        trial.copyFrom(now);
        int draw = seed;
        for (int step = 0; step < m; step++) {
            draw = (DRAW_TIMES * draw + DRAW_MORE) % DRAW_BY;
            trial.takeIfItCanBe(kindOfDraw(draw % EIGHT), draw / EIGHT % EIGHT);
        }
        if (what == 0) {
            return trial.hoursPainted;
        }
        return what == 1 ? trial.actsMade : trial.actsRepealed;
    }

    public int image(int n) {
        if (n < 0 || n >= IMAGES) {
            return OUTSIDE;
        }
        if (n == 0) {
            firstImage.copyFrom(now);
            firstKept = true;
        } else {
            secondImage.copyFrom(now);
            secondKept = true;
        }
        return 1;
    }

    public int restore(int n) {
        if (n < 0 || n >= IMAGES) {
            return OUTSIDE;
        }
        if (n == 0 ? !firstKept : !secondKept) {
            return STATE;
        }
        now.copyFrom(n == 0 ? firstImage : secondImage);
        return 1;
    }

    public int told(int what) {
        if (what == 0) {
            return pad.count;
        }
        if (what == 1) {
            return now.sights;
        }
        if (what >= 2 && isColony(what - 2)) {
            return now.colonies[what - 2];
        }
        if (what >= 10 && isOfEight(what / 10 - 1)) {
            return now.tellPart(what / 10 - 1, what % 10);
        }
        if (what >= 100 && isOfEight(what - 100)) {
            return now.needed[what - 100];
        }
        return OUTSIDE;
    }

    // ---- numbers as told

    private static boolean isOfEight(int number) {
        return number >= 0 && number < EIGHT;
    }

    private static boolean isSet(int bits) {
        return bits >= 0 && bits <= ALL;
    }

    private static boolean isEitherOne(int what) {
        return what == 0 || what == 1;
    }

    private static boolean isColony(int colony) {
        return colony >= 0 && colony < COLONIES;
    }

    // ---- reigns

    /** Takes the STEPS on the trial, up to the first that can not be; none of a PAD with a FAULT. */
    private void tryReign() {
        trial.copyFrom(now);
        stepsTaken = 0;
        reason = pad.firstFault() == NONE ? 0 : NO;
        if (reason != 0) {
            return;
        }
        boolean over = false;
        for (int place = 0; place < pad.count; place++) {
            int kind = Pad.kindOf(pad.signAt(place));
            if (kind == OVER) {
                over = true;
                continue;
            }
            reason = trial.takeIfItCanBe(over ? OVER : kind, Pad.numberOf(pad.signAt(place)));
            if (reason != 0) {
                return;
            }
            over = false;
            stepsTaken++;
        }
    }

    private static int kindOfDraw(int leftOver) {
        switch (leftOver) {
            case 0:
                return SIT;
            case 1:
                return OVER;
            case 2:
            case 3:
                return MAKE;
            default:
                return PAINT;
        }
    }

    // ---- plans, bars

    /** The set of PARTS to be DONE besides, of fewest hours, the least of these; NONE. */
    private int cheapestPlan(int wanted, int not) {
        int done = now.doneParts();
        int best = NONE;
        int fewestHours = 0;
        for (int set = 0; set < SETS; set++) {
            if ((set & done) != 0 || !now.isPicture(set | done) || !fitsPlan(set | done, wanted, not)) {
                continue;
            }
            int hours = now.hoursToPaint(set);
            if (best == NONE || hours < fewestHours) {
                best = set;
                fewestHours = hours;
            }
        }
        return best;
    }

    private boolean fitsPlan(int picture, int wanted, int not) {
        int acts = now.actsWithin(now.powersOf(picture));
        return (wanted & ~acts) == 0 && (not & acts) == 0;
    }

    private int tellPlan(int set, int what) {
        if (set == NONE || what == 1) {
            return set;
        }
        return now.hoursToPaint(set);
    }

    private int fewestToBar(int act) {
        int done = now.doneParts();
        if (!now.givesAll(done, act)) {
            return NONE;
        }
        int best = NONE;
        for (int set = 0; set < SETS; set++) {
            if (isFewer(set, best) && !now.givesAll(done & ~now.fallingWith(set), act)) {
                best = set;
            }
        }
        return best;
    }

    private int fewestToGuard(int act) {
        int best = NONE;
        for (int more = 0; more < SETS; more++) {
            if (isFewer(more, best) && now.partsThatGive(now.needed[act] | more) == 0) {
                best = more;
            }
        }
        return best;
    }

    private static boolean isFewer(int set, int best) {
        return best == NONE || Integer.bitCount(set) < Integer.bitCount(best);
    }

    private static int tellFewest(int set, int what) {
        if (set == NONE || what == 1) {
            return set;
        }
        return Integer.bitCount(set);
    }

    private void clearBySet() {
        for (int set = 0; set < SETS; set++) {
            bySet[set] = 0;
        }
    }

    // ---- hidden pictures

    /** Marks by 1 each picture that there can have been behind the last STEP with a SIGHT. */
    private void findHidden() {
        for (int set = 0; set < SETS; set++) {
            bySet[set] = now.isPicture(set) ? 1 : 0;
        }
        int step = now.nextSightStep(-1);
        for (int sight = 0; sight < MOST_SIGHTS && step != NONE; sight++) {
            markAllWithMore();
            keepThoseSeenAt(step);
            step = now.nextSightStep(step);
        }
    }

    /** Marks each set too that holds a marked one. */
    private void markAllWithMore() {
        for (int set = 0; set < SETS; set++) {
            for (int part = 0; part < EIGHT; part++) {
                if ((set & 1 << part) != 0 && bySet[set & ~(1 << part)] == 1) {
                    bySet[set] = 1;
                }
            }
        }
    }

    private void keepThoseSeenAt(int step) {
        for (int set = 0; set < SETS; set++) {
            if (bySet[set] == 1 && (!now.isPicture(set) || !now.fitsSightsAt(step, set))) {
                bySet[set] = 0;
            }
        }
    }

    private int countHidden() {
        int pictures = 0;
        for (int set = 0; set < SETS; set++) {
            pictures += bySet[set];
        }
        return pictures;
    }

    private int partsInSomeHidden() {
        int parts = 0;
        for (int set = 0; set < SETS; set++) {
            if (bySet[set] == 1) {
                parts |= set;
            }
        }
        return parts;
    }

    private int partsInAllHidden() {
        if (countHidden() == 0) {
            return 0;
        }
        int parts = ALL;
        for (int set = 0; set < SETS; set++) {
            if (bySet[set] == 1) {
                parts &= set;
            }
        }
        return parts;
    }

    private int mostLeftBy(int act, int pictures) {
        int could = 0;
        for (int set = 0; set < SETS; set++) {
            if (bySet[set] == 1 && now.givesAll(set, act)) {
                could++;
            }
        }
        return Math.max(could, pictures - could);
    }

    // ---- turns

    /** For each set of DONE PARTS: the least PART by which whose turn it is wins; NONE. */
    private void findWinningParts(int act) {
        for (int set = ALL; set >= 0; set--) {
            bySet[set] = winningPart(set, act);
        }
    }

    private int winningPart(int set, int act) {
        for (int part = 0; part < EIGHT; part++) {
            if (now.canFinish(part, set)) {
                int next = set | 1 << part;
                if (now.givesAll(next, act) || bySet[next] == NONE) {
                    return part;
                }
            }
        }
        return NONE;
    }

    // ---- fever

    /** Of 10 to the m: how often the picture gives all that the ACT NEEDS behind m hours. */
    private long feverChances(int act, int m, int t) {
        trial.copyFrom(now);
        long sum = 0;
        for (int painting = 0; painting <= m; painting++) {
            if (trial.givesAll(trial.doneParts(), act)) {
                sum += feverWeight(painting, m, t);
            }
            trial.paintLeast();
        }
        return sum;
    }

    /** The mean of the hours that are painted, times 10 to the m. */
    private long feverHours(int m, int t) {
        trial.copyFrom(now);
        long sum = 0;
        for (int painting = 0; painting <= m; painting++) {
            sum += feverWeight(painting, m, t) * trial.hoursPainted;
            trial.paintLeast();
        }
        return sum;
    }

    /** Of 10 to the m: how often just so many of m hours are not lost. */
    private static long feverWeight(int painting, int m, int t) {
        return choices(m, painting) * power(TENTHS - t, painting) * power(t, m - painting);
    }

    private static long choices(int from, int taken) {
        long ways = 1;
        for (int i = 1; i <= taken; i++) {
            ways = ways * (from - taken + i) / i;
        }
        return ways;
    }

    private static long power(int base, int exponent) {
        long product = 1;
        for (int i = 0; i < exponent; i++) {
            product *= base;
        }
        return product;
    }

    private static long commonDivisor(long one, long other) {
        long greater = one;
        long lesser = other;
        for (int i = 0; i < MOST_DIVISIONS && lesser != 0; i++) {
            long left = greater % lesser;
            greater = lesser;
            lesser = left;
        }
        return greater;
    }

    /** The text of a REIGN. */
    private static final class Pad {
        private final int[] signs = new int[MOST_SIGNS];
        private int count;

        private void write(int sign) {
            if (count >= 0 && count < MOST_SIGNS) {
                signs[count] = sign;
                count++;
            }
        }

        private int signAt(int place) {
            return place >= 0 && place < count && place < MOST_SIGNS ? signs[place] : 0;
        }

        private static int kindOf(int sign) {
            if (sign >= 'a' && sign < 'a' + EIGHT) {
                return PAINT;
            }
            if (sign >= 'A' && sign < 'A' + EIGHT) {
                return MAKE;
            }
            if (sign == '/') {
                return OVER;
            }
            return sign == 's' ? SIT : NOTHING;
        }

        /** Of a PART's or an ACT's letter which one it is; 0 of another sign. */
        private static int numberOf(int sign) {
            int kind = kindOf(sign);
            if (kind == PAINT) {
                return sign - 'a';
            }
            return kind == MAKE ? sign - 'A' : 0;
        }

        private int firstFault() {
            boolean partMustCome = false;
            for (int place = 0; place < count; place++) {
                int kind = kindOf(signAt(place));
                if (partMustCome ? kind != PAINT : kind == NOTHING) {
                    return place;
                }
                partMustCome = kind == OVER;
            }
            return partMustCome ? count : NONE;
        }
    }

    /** All that an IMAGE keeps. */
    private static final class Realm {
        private final int[] hours = new int[EIGHT];
        private final int[] under = new int[EIGHT];
        private final int[] gives = new int[EIGHT];
        private final int[] painted = new int[EIGHT];
        private final int[] needed = new int[EIGHT];
        private final int[] sightSteps = new int[MOST_SIGHTS];
        private final int[] sightActs = new int[MOST_SIGHTS];
        private final int[] colonies = new int[COLONIES];
        private int inForce;
        private boolean sits;
        private int sights;
        /** The SIGHTS by which the ACT could be, as bits. */
        private int sightsThatCould;
        /** These three count since copyFrom, so a trial tells what happened in it. */
        private int hoursPainted;
        private int actsMade;
        private int actsRepealed;

        private Realm() {
            for (int i = 0; i < EIGHT; i++) {
                hours[i] = 1;
                gives[i] = 1 << i;
                needed[i] = 1 << i;
            }
        }

        private void copyFrom(Realm other) {
            System.arraycopy(other.hours, 0, hours, 0, EIGHT);
            System.arraycopy(other.under, 0, under, 0, EIGHT);
            System.arraycopy(other.gives, 0, gives, 0, EIGHT);
            System.arraycopy(other.painted, 0, painted, 0, EIGHT);
            System.arraycopy(other.needed, 0, needed, 0, EIGHT);
            System.arraycopy(other.sightSteps, 0, sightSteps, 0, MOST_SIGHTS);
            System.arraycopy(other.sightActs, 0, sightActs, 0, MOST_SIGHTS);
            System.arraycopy(other.colonies, 0, colonies, 0, COLONIES);
            inForce = other.inForce;
            sits = other.sits;
            sights = other.sights;
            sightsThatCould = other.sightsThatCould;
            hoursPainted = 0;
            actsMade = 0;
            actsRepealed = 0;
        }

        // ---- sets of PARTS, POWERS, ACTS

        private int doneParts() {
            int set = 0;
            for (int part = 0; part < EIGHT; part++) {
                if (painted[part] == hours[part]) {
                    set |= 1 << part;
                }
            }
            return set;
        }

        private int paintedParts() {
            int set = 0;
            for (int part = 0; part < EIGHT; part++) {
                if (painted[part] > 0) {
                    set |= 1 << part;
                }
            }
            return set;
        }

        private int powersOf(int set) {
            int powers = 0;
            for (int part = 0; part < EIGHT; part++) {
                if ((set & 1 << part) != 0) {
                    powers |= gives[part];
                }
            }
            return powers;
        }

        private int actsWithin(int powers) {
            int acts = 0;
            for (int act = 0; act < EIGHT; act++) {
                if ((needed[act] & ~powers) == 0) {
                    acts |= 1 << act;
                }
            }
            return acts;
        }

        private boolean givesAll(int set, int act) {
            return (needed[act] & ~powersOf(set)) == 0;
        }

        private int partsThatGive(int powers) {
            int set = 0;
            for (int part = 0; part < EIGHT; part++) {
                if ((powers & ~gives[part]) == 0) {
                    set |= 1 << part;
                }
            }
            return set;
        }

        private boolean isPicture(int set) {
            for (int part = 0; part < EIGHT; part++) {
                if ((set & 1 << part) != 0 && (under[part] & ~set) != 0) {
                    return false;
                }
            }
            return true;
        }

        private boolean canFinish(int part, int set) {
            return (set & 1 << part) == 0 && (under[part] & ~set) == 0;
        }

        private int hoursToPaint(int set) {
            int sum = 0;
            for (int part = 0; part < EIGHT; part++) {
                if ((set & 1 << part) != 0) {
                    sum += hours[part] - painted[part];
                }
            }
            return sum;
        }

        private int withAllAbove(int part) {
            return fallingWith(1 << part);
        }

        /** One pass upward is enough, since PARTS have lesser ones alone UNDER them. */
        private int fallingWith(int set) {
            int falling = set;
            for (int part = 0; part < EIGHT; part++) {
                if ((under[part] & falling) != 0) {
                    falling |= 1 << part;
                }
            }
            return falling;
        }

        // ---- STEPS

        private int powersThereAre() {
            return sits ? powersOf(doneParts()) : ALL;
        }

        /** The reason for which a STEP can not be; 0: it can. */
        private int whyNot(int kind, int number) {
            switch (kind) {
                case PAINT:
                    return whyNotPaint(number);
                case OVER:
                    return painted[number] == 0 ? 4 : 0;
                case MAKE:
                    return whyNotMake(number);
                default:
                    return 0;
            }
        }

        private int whyNotPaint(int part) {
            if (!sits) {
                return 1;
            }
            int done = doneParts();
            if ((done & 1 << part) != 0) {
                return 2;
            }
            return (under[part] & ~done) != 0 ? 3 : 0;
        }

        private int whyNotMake(int act) {
            if ((inForce & 1 << act) != 0) {
                return 5;
            }
            return (needed[act] & ~powersThereAre()) != 0 ? 6 : 0;
        }

        /** Takes a STEP, or answers the reason for which it can not be. */
        private int takeIfItCanBe(int kind, int number) {
            int reason = whyNot(kind, number);
            if (reason != 0) {
                return reason;
            }
            switch (kind) {
                case PAINT:
                    paint(number);
                    break;
                case OVER:
                    unpaint(withAllAbove(number));
                    repeal();
                    break;
                case SIT:
                    sits = !sits;
                    break;
                case MAKE:
                    inForce |= 1 << number;
                    actsMade++;
                    break;
                default:
                    break;
            }
            return 0;
        }

        private void paint(int part) {
            painted[part]++;
            hoursPainted++;
        }

        private void unpaint(int set) {
            for (int part = 0; part < EIGHT; part++) {
                if ((set & 1 << part) != 0) {
                    painted[part] = 0;
                }
            }
        }

        private void repeal() {
            int hanging = actsWithin(powersThereAre());
            actsRepealed += Integer.bitCount(inForce & ~hanging);
            inForce &= hanging;
        }

        /** An hour of a fever that is not lost; the least PART not DONE has all UNDER it DONE. */
        private void paintLeast() {
            int done = doneParts();
            for (int part = 0; part < EIGHT; part++) {
                if ((done & 1 << part) == 0) {
                    paint(part);
                    return;
                }
            }
        }

        // ---- SIGHTS

        private void addSight(int steps, int act, boolean could) {
            if (sights >= 0 && sights < MOST_SIGHTS) {
                sightSteps[sights] = steps;
                sightActs[sights] = act;
                int bit = 1 << sights;
                sightsThatCould = could ? sightsThatCould | bit : sightsThatCould & ~bit;
                sights++;
            }
        }

        /** The least number of STEPS above the told one of which there is a SIGHT; NONE. */
        private int nextSightStep(int step) {
            int next = NONE;
            for (int sight = 0; sight < sights && sight < MOST_SIGHTS; sight++) {
                if (sightSteps[sight] > step && (next == NONE || sightSteps[sight] < next)) {
                    next = sightSteps[sight];
                }
            }
            return next;
        }

        private boolean fitsSightsAt(int step, int picture) {
            int acts = actsWithin(powersOf(picture));
            for (int sight = 0; sight < sights && sight < MOST_SIGHTS; sight++) {
                boolean could = (acts & 1 << sightActs[sight]) != 0;
                boolean saidCould = (sightsThatCould & 1 << sight) != 0;
                if (sightSteps[sight] == step && could != saidCould) {
                    return false;
                }
            }
            return true;
        }

        // ---- what is told

        private int tellState(int what) {
            switch (what) {
                case 0:
                    return doneParts();
                case 1:
                    return powersOf(doneParts());
                case 2:
                    return inForce;
                default:
                    return sits ? 1 : 0;
            }
        }

        private int tellPart(int part, int what) {
            switch (what) {
                case 0:
                    return hours[part];
                case 1:
                    return under[part];
                case 2:
                    return gives[part];
                case 3:
                    return painted[part];
                default:
                    return OUTSIDE;
            }
        }
    }
}
