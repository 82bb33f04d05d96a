import java.lang.reflect.Method;
import java.util.ArrayList;
import java.util.Arrays;
import java.util.Comparator;
import java.util.List;

/**
 * Each sentence of the document that names a boundary case, in a test of its own that is named after its promise:
 * the last value that is allowed and the first that is not, empty and full, which refusal goes first, and that a
 * refused call changes nothing. A test is a method whose name begins with the promise's number.
 */
public final class EdgeTest {
    private static final int NONE = -6, UNKNOWN = -1, OUTSIDE = -2, STATE = -3, FULL = -4, NO = -5;
    private static final long LOST = -1000000000000000000L;
    private static final int LEAST = Integer.MIN_VALUE, MOST = Integer.MAX_VALUE;
    private static final int PROMISES = 32;
    private static int wrong = 0;
    private static String test = "";

    private interface Call {
        long on(PortraitRule x);
    }

    private interface Look {
        List<Long> at(PortraitRule x);
    }

    public static void main(String[] args) throws Exception {
        Method[] all = EdgeTest.class.getDeclaredMethods();
        Arrays.sort(all, Comparator.comparing(Method::getName));
        int[] tests = new int[PROMISES + 1];
        for (Method one : all) {
            if (one.getName().matches("promise\\d\\d_.*")) {
                test = one.getName();
                tests[Integer.parseInt(test.substring(7, 9))]++;
                one.invoke(null);
            }
        }
        test = "all promises";
        for (int promise = 1; promise <= PROMISES; promise++) {
            due("a test of promise " + promise, tests[promise] > 0 ? 1 : 0, 1);
        }
        if (wrong != 0) {
            System.exit(1);
        }
    }

    // ---- what the tests are made of

    private static void due(String call, long got, long want) {
        if (got != want) {
            wrong++;
            System.out.println(test + ": " + call + " answered " + got + ", due is " + want);
        }
    }

    private static void write(PortraitRule x, String text) {
        x.wipe();
        for (char sign : text.toCharArray()) {
            x.say(sign);
        }
    }

    private static void reign(PortraitRule x, String text, int steps) {
        write(x, text);
        due("done() of " + text, x.done(), steps);
    }

    private static void judged(PortraitRule x, String text, int step, int why) {
        write(x, text);
        due("judge(0) of " + text, x.judge(0), step);
        due("judge(1) of " + text, x.judge(1), why);
    }

    private static void states(PortraitRule x, int done, int powers, int force, int sits) {
        due("state(0)", x.state(0), done);
        due("state(1)", x.state(1), powers);
        due("state(2)", x.state(2), force);
        due("state(3)", x.state(3), sits);
    }

    private static void behinds(PortraitRule x, String text, int... want) {
        write(x, text);
        for (int what = 0; what < 6; what++) {
            due("behind(" + what + ") of " + text, x.behind(what), want[what]);
        }
    }

    private static void pair(String call, Call first, long one, Call second, long two, PortraitRule x) {
        due(call + ", 0)", first.on(x), one);
        due(call + ", 1)", second.on(x), two);
    }

    private static void lacks(PortraitRule x, int act, int hours, int set) {
        pair("lacks(" + act, y -> y.lacks(act, 0), hours, y -> y.lacks(act, 1), set, x);
    }

    private static void plans(PortraitRule x, int wanted, int not, int hours, int set) {
        pair("plan(" + wanted + ", " + not, y -> y.plan(wanted, not, 0), hours, y -> y.plan(wanted, not, 1), set, x);
    }

    private static void bars(PortraitRule x, int act, int count, int set) {
        pair("bar(" + act, y -> y.bar(act, 0), count, y -> y.bar(act, 1), set, x);
    }

    private static void falls(PortraitRule x, int part, int parts, int powers) {
        pair("falls(" + part, y -> y.falls(part, 0), parts, y -> y.falls(part, 1), powers, x);
    }

    private static void guards(PortraitRule x, int act, int count, int set) {
        pair("guard(" + act, y -> y.guard(act, 0), count, y -> y.guard(act, 1), set, x);
    }

    private static void tries(PortraitRule x, int act, int count) {
        due("tries(0)", x.tries(0), act);
        due("tries(1)", x.tries(1), count);
    }

    private static void turns(PortraitRule x, int act, int who, int part) {
        pair("turns(" + act, y -> y.turns(act, 0), who, y -> y.turns(act, 1), part, x);
    }

    private static void hidden(PortraitRule x, int count, int all, int some) {
        due("hidden(0)", x.hidden(0), count);
        due("hidden(1)", x.hidden(1), all);
        due("hidden(2)", x.hidden(2), some);
    }

    private static void chance(PortraitRule x, int act, int m, int t, long upper, long lower) {
        String call = "fever(" + act + ", " + m + ", " + t + ", 0";
        pair(call, y -> y.fever(act, m, t, 0, 0), upper, y -> y.fever(act, m, t, 0, 1), lower, x);
    }

    private static void mean(PortraitRule x, int m, int t, long upper, long lower) {
        String call = "fever(0, " + m + ", " + t + ", 1";
        pair(call, y -> y.fever(0, m, t, 1, 0), upper, y -> y.fever(0, m, t, 1, 1), lower, x);
    }

    private static void years(PortraitRule x, int seed, int m, int hours, int made, int repealed) {
        int[] want = {hours, made, repealed};
        for (int what = 0; what < 3; what++) {
            due("year(" + seed + ", " + m + ", " + what + ")", x.year(seed, m, what), want[what]);
        }
    }

    /** Eight PARTS, each with the one ahead of it UNDER it, each of so many hours. */
    private static PortraitRule chain(int hours) {
        PortraitRule x = new PortraitRule();
        for (int part = 0; part < 8; part++) {
            x.part(part, hours, part == 0 ? 0 : 1 << (part - 1), 1 << part);
        }
        return x;
    }

    /** Eight PARTS that give the same. */
    private static PortraitRule alike(int gives) {
        PortraitRule x = new PortraitRule();
        for (int part = 0; part < 8; part++) {
            x.part(part, 1, 0, gives);
        }
        return x;
    }

    // ---- realms in which calls are refused

    private static final int NEW = 0, MIDWAY = 1, BRIMFUL = 2, FAULTY = 3, IMPOSSIBLE = 4, REALMS = 5;

    private static PortraitRule realm(int kind) {
        PortraitRule x = new PortraitRule();
        switch (kind) {
            case MIDWAY -> makeMidway(x);
            case BRIMFUL -> makeBrimful(x);
            case FAULTY -> write(x, "sa/");
            case IMPOSSIBLE -> write(x, "HsaA/aA");
            default -> { }
        }
        return x;
    }

    /** A bit of all: hours painted, ACTS that hang on nothing, SIGHTS, copies, one IMAGE, a REIGN that can be. */
    private static void makeMidway(PortraitRule x) {
        x.part(1, 2, 1, 6);
        x.part(2, 3, 2, 12);
        x.part(4, 9, 0, 144);
        x.part(7, 2, 0, 129);
        x.needs(5, 3);
        x.needs(6, 0);
        write(x, "FGsaAbbcCee");
        x.done();
        x.seen(3, 1, true);
        x.seen(9, 3, false);
        x.send(0);
        x.image(0);
        write(x, "hhd");
        x.done();
        x.send(2);
        x.seen(12, 0, true);
        write(x, "c/bs");
    }

    /** All that can be full is full: PARTS, ACTS, SIGHTS, copies, IMAGES, the PAD. */
    private static void makeBrimful(PortraitRule x) {
        write(x, "sabcdABC");
        x.done();
        x.image(0);
        write(x, "efghDEFGH");
        x.done();
        for (int sight = 0; sight < 8; sight++) {
            x.seen(sight == 0 ? 0 : 60, sight, sight < 4);
        }
        for (int colony = 0; colony < 4; colony++) {
            x.send(colony);
        }
        x.image(1);
        write(x, "s".repeat(60));
    }

    private static void lookAtTold(PortraitRule x, List<Long> found) {
        for (int what = 0; what < 108; what++) {
            if (what < 6 || what >= 100 || what >= 10 && what < 90 && what % 10 < 4) {
                found.add((long) x.told(what));
            }
        }
        for (int what = 0; what < 4; what++) {
            found.add((long) x.state(what));
        }
        for (int what = 0; what < 3; what++) {
            found.add((long) x.hidden(what));
        }
    }

    private static List<Long> lookAtAnswers(PortraitRule x) {
        List<Long> found = new ArrayList<>();
        lookAtTold(x, found);
        for (int what = 0; what < 6; what++) {
            found.add((long) x.behind(what));
        }
        for (int act = 0; act < 8; act++) {
            found.add((long) x.alone(act));
            for (int what = 0; what < 2; what++) {
                found.add((long) x.lacks(act, what));
                found.add((long) x.bar(act, what));
                found.add((long) x.falls(act, what));
                found.add((long) x.guard(act, what));
                found.add((long) x.turns(act, what));
            }
        }
        for (int colony = 0; colony < 4; colony++) {
            found.add((long) x.makes(colony));
            found.add((long) x.quarrel(colony, (colony + 1) % 4));
        }
        for (int what = 0; what < 2; what++) {
            found.add((long) x.judge(what));
            found.add((long) x.tries(what));
            found.add((long) x.plan(3, 8, what));
            found.add(x.fever(3, 8, 3, 0, what));
            found.add(x.fever(3, 8, 3, 1, what));
        }
        for (long one : new long[] {x.fault(), x.can(), x.orders(), x.sent(), x.year(9, 99, 0), x.year(9, 99, 1), x.year(9, 99, 2)}) {
            found.add(one);
        }
        return found;
    }

    /** What only shows when it is used: the PAD's signs, and both IMAGES. */
    private static List<Long> lookAtWhatIsKept(PortraitRule x) {
        List<Long> found = new ArrayList<>();
        found.add((long) x.done());
        lookAtTold(x, found);
        for (int n = 0; n < 2; n++) {
            found.add((long) x.restore(n));
            lookAtTold(x, found);
        }
        found.add((long) x.wipe());
        found.add((long) x.forget());
        return found;
    }

    /** A realm in which the call was made answers all as one in which it was not. */
    private static void unchanged(int kind, String call, Call made) {
        Look[] looks = {EdgeTest::lookAtAnswers, EdgeTest::lookAtWhatIsKept};
        for (Look look : looks) {
            PortraitRule touched = realm(kind);
            made.on(touched);
            boolean same = look.at(touched).equals(look.at(realm(kind)));
            due(call + " in realm " + kind + " changes something: it", same ? 0 : 1, 0);
        }
    }

    private static void refusedIn(int kind, String call, long want, Call made) {
        due(call + " in realm " + kind, made.on(realm(kind)), want);
        unchanged(kind, call, made);
    }

    private static void refused(String call, long want, Call made) {
        for (int kind = 0; kind < REALMS; kind++) {
            refusedIn(kind, call, want, made);
        }
    }

    /** A call that only tells; what it tells is looked at by other tests. */
    private static void tellsAlone(String call, Call made) {
        for (int kind = 0; kind < REALMS; kind++) {
            unchanged(kind, call, made);
        }
    }

    private static final int[] NO_EIGHTH = {-1, 8, 9, LEAST, MOST};
    private static final int[] NEITHER = {-1, 2, 3, LEAST, MOST};

    // ---- the terms: what is told of all calls

    public static void promise01_constants() {
        due("NONE", PortraitRule.NONE, NONE);
        due("UNKNOWN", PortraitRule.UNKNOWN, UNKNOWN);
        due("OUTSIDE", PortraitRule.OUTSIDE, OUTSIDE);
        due("STATE", PortraitRule.STATE, STATE);
        due("FULL", PortraitRule.FULL, FULL);
        due("NO", PortraitRule.NO, NO);
        due("LOST", PortraitRule.LOST, LOST);
    }

    public static void promise01_all512CallsCount() {
        PortraitRule x = new PortraitRule();
        int calls = 0;
        for (int i = 0; i < 8; i++) {
            for (int sign = 0; sign < 60; sign++, calls++) {
                due("say(115)", x.say('s'), sign + 1);
            }
            due("done()", x.done(), 60);
            calls++;
        }
        for (; calls < 508; calls++) {
            due("seen", x.seen(calls % 61, calls % 8, true), calls < 496 ? calls - 487 : FULL);
        }
        due("call 509: image(1)", x.image(1), 1);
        due("call 510: part(7, 9, 127, 255)", x.part(7, 9, 127, 255), 1);
        due("call 511: restore(1)", x.restore(1), 1);
        due("call 512: told(81)", x.told(81), 0);
    }

    public static void promise01_objectsAreApart() {
        PortraitRule other = realm(BRIMFUL);
        PortraitRule x = new PortraitRule();
        due("told(0)", x.told(0), 0);
        due("restore(0)", x.restore(0), STATE);
        write(x, "sa");
        due("told(0) of the other", other.told(0), 60);
        states(other, 255, 255, 255, 1);
    }

    // ---- 1 a new object

    public static void promise01_nothingIsPainted() {
        PortraitRule x = new PortraitRule();
        for (int part = 0; part < 8; part++) {
            due("PAINTED of " + part, x.told(13 + 10 * part), 0);
        }
        due("DONE PARTS", x.state(0), 0);
        due("POWERS of the picture", x.state(1), 0);
    }

    public static void promise01_hoursUnderGivesAtFirst() {
        PortraitRule x = new PortraitRule();
        for (int part = 0; part < 8; part++) {
            due("HOURS of " + part, x.told(10 + 10 * part), 1);
            due("UNDER of " + part, x.told(11 + 10 * part), 0);
            due("GIVES of " + part, x.told(12 + 10 * part), 1 << part);
        }
    }

    public static void promise01_actsAtFirst() {
        PortraitRule x = new PortraitRule();
        for (int act = 0; act < 8; act++) {
            due("NEEDS of " + act, x.told(100 + act), 1 << act);
        }
        due("IN FORCE", x.state(2), 0);
    }

    public static void promise01_heDoesNotSitAtFirst() {
        due("state(3)", new PortraitRule().state(3), 0);
    }

    public static void promise01_emptyAtFirst() {
        PortraitRule x = new PortraitRule();
        due("signs", x.told(0), 0);
        due("SIGHTS", x.told(1), 0);
        for (int colony = 0; colony < 4; colony++) {
            due("POWERS of COLONY " + colony, x.told(2 + colony), 0);
        }
        due("restore(0)", x.restore(0), STATE);
        due("restore(1)", x.restore(1), STATE);
    }

    // ---- 2 part

    public static void promise02_parts0To7() {
        PortraitRule x = new PortraitRule();
        for (int part = 0; part < 8; part++) {
            due("part(" + part + ", 2, 0, 0)", x.part(part, 2, 0, 0), 1);
        }
        for (int part : NO_EIGHTH) {
            refused("part(" + part + ", 1, 0, 0)", UNKNOWN, y -> y.part(part, 1, 0, 0));
        }
    }

    public static void promise02_hours1To9() {
        PortraitRule x = new PortraitRule();
        int before = 1;
        for (int hours = 1; hours <= 9; hours++) {
            due("part(7, " + hours + ", 0, 0)", x.part(7, hours, 0, 0), before);
            due("told(80)", x.told(80), hours);
            before = hours;
        }
        for (int hours : new int[] {0, 10, -1, -9, LEAST, MOST}) {
            refused("part(7, " + hours + ", 0, 0)", OUTSIDE, y -> y.part(7, hours, 0, 0));
        }
    }

    public static void promise02_underOfLesserNumbersAlone() {
        for (int part = 0; part < 8; part++) {
            PortraitRule x = new PortraitRule();
            int one = part;
            int most = (1 << part) - 1;
            due("part(" + part + ", 1, " + most + ", 0)", x.part(part, 1, most, 0), 1);
            due("its UNDER", x.told(11 + 10 * part), most);
            due("part(" + part + ", 1, 0, 0)", x.part(part, 1, 0, 0), 1);
            for (int lesser = 0; lesser < part; lesser++) {
                due("part(" + part + ", 1, " + (1 << lesser) + ", 0)", x.part(part, 1, 1 << lesser, 0), 1);
            }
            for (int under : new int[] {1 << part, (2 << part) - 1, 256, 256 + most, -1, LEAST, MOST}) {
                refused("part(" + part + ", 1, " + under + ", 0)", OUTSIDE, y -> y.part(one, 1, under, 0));
            }
        }
        refused("part(6, 1, 128, 0)", OUTSIDE, y -> y.part(6, 1, 128, 0));
        refused("part(6, 1, 129, 0)", OUTSIDE, y -> y.part(6, 1, 129, 0));
    }

    public static void promise02_gives0To255() {
        PortraitRule x = new PortraitRule();
        for (int gives : new int[] {0, 255, 1, 128}) {
            due("part(3, 1, 0, " + gives + ")", x.part(3, 1, 0, gives), 1);
            due("told(42)", x.told(42), gives);
        }
        for (int gives : new int[] {-1, 256, LEAST, MOST}) {
            refused("part(3, 1, 0, " + gives + ")", OUTSIDE, y -> y.part(3, 1, 0, gives));
        }
    }

    public static void promise02_unknownAheadOfOutside() {
        refused("part(8, 0, 0, 0)", UNKNOWN, y -> y.part(8, 0, 0, 0));
        refused("part(-1, 1, 1, 0)", UNKNOWN, y -> y.part(-1, 1, 1, 0));
        refused("part(8, 1, 0, 256)", UNKNOWN, y -> y.part(8, 1, 0, 256));
        refused("part(-1, 10, -1, -1)", UNKNOWN, y -> y.part(-1, 10, -1, -1));
    }

    public static void promise02_answersWhichHoursItWanted() {
        PortraitRule x = new PortraitRule();
        due("part(0, 9, 0, 1)", x.part(0, 9, 0, 1), 1);
        due("part(0, 4, 0, 1)", x.part(0, 4, 0, 1), 9);
        due("part(0, 0, 0, 1)", x.part(0, 0, 0, 1), OUTSIDE);
        due("part(0, 4, 0, 1)", x.part(0, 4, 0, 1), 4);
    }

    public static void promise02_nothingOfItIsPaintedThen() {
        PortraitRule x = new PortraitRule();
        x.part(0, 3, 0, 1);
        reign(x, "saa", 3);
        due("the same again", x.part(0, 3, 0, 1), 3);
        due("told(13)", x.told(13), 0);
        reign(x, "aa", 2);
        // two hours are painted: it would be DONE at once, were they left
        due("part(0, 2, 0, 1)", x.part(0, 2, 0, 1), 3);
        states(x, 0, 0, 0, 1);
        reign(x, "aa", 2);
        states(x, 1, 1, 0, 1);
        due("part(0, 2, 0, 1) of a DONE one", x.part(0, 2, 0, 1), 2);
        states(x, 0, 0, 0, 1);
    }

    public static void promise02_norOfWhatHasItUnder() {
        for (int told = 0; told < 8; told++) {
            PortraitRule x = chain(1);
            reign(x, "sabcdefgh", 9);
            due("part(" + told + ", ..)", x.part(told, 1, 0, 1 << told), 1);
            for (int part = 0; part < 8; part++) {
                due("PAINTED of " + part + " behind part(" + told + ", ..)", x.told(13 + 10 * part), part < told ? 1 : 0);
            }
        }
    }

    public static void promise02_hoursThatAreNotDoneGoToo() {
        PortraitRule x = chain(2);
        reign(x, "saab", 4);
        due("part(0, 1, 0, 0)", x.part(0, 1, 0, 0), 2);
        due("told(13)", x.told(13), 0);
        due("told(23)", x.told(23), 0);
    }

    public static void promise02_whatIsBesideItStays() {
        PortraitRule x = new PortraitRule();
        x.part(2, 1, 1, 4);
        reign(x, "sabcdefgh", 9);
        due("part(1, 1, 1, 2)", x.part(1, 1, 1, 2), 1);
        due("state(0)", x.state(0), 253);
        due("part(0, 1, 0, 1)", x.part(0, 1, 0, 1), 1);
        due("state(0)", x.state(0), 248);
    }

    public static void promise02_noActIsRepealedByIt() {
        PortraitRule x = new PortraitRule();
        reign(x, "sabAB", 5);
        due("part(0, 1, 0, 0)", x.part(0, 1, 0, 0), 1);
        states(x, 2, 2, 3, 1);
        // the next / repeals what hangs on nothing since then
        reign(x, "c", 1);
        behinds(x, "/c", 2, 2, 2, 1, 0, 1);
    }

    // ---- 3 needs

    public static void promise03_acts0To7() {
        PortraitRule x = new PortraitRule();
        for (int act = 0; act < 8; act++) {
            due("needs(" + act + ", 0)", x.needs(act, 0), 1 << act);
        }
        for (int act : NO_EIGHTH) {
            refused("needs(" + act + ", 0)", UNKNOWN, y -> y.needs(act, 0));
        }
    }

    public static void promise03_powers0To255() {
        PortraitRule x = new PortraitRule();
        due("needs(7, 255)", x.needs(7, 255), 128);
        due("needs(7, 0)", x.needs(7, 0), 255);
        due("needs(7, 1)", x.needs(7, 1), 0);
        for (int powers : new int[] {-1, 256, 257, LEAST, MOST}) {
            refused("needs(7, " + powers + ")", OUTSIDE, y -> y.needs(7, powers));
        }
    }

    public static void promise03_unknownAheadOfOutside() {
        refused("needs(8, 256)", UNKNOWN, y -> y.needs(8, 256));
        refused("needs(-1, -1)", UNKNOWN, y -> y.needs(-1, -1));
    }

    public static void promise03_itIsNotInForceThen() {
        PortraitRule x = new PortraitRule();
        reign(x, "ABCDEFGH", 8);
        due("the same again", x.needs(0, 1), 1);
        due("state(2)", x.state(2), 254);
        due("needs(7, 0)", x.needs(7, 0), 128);
        due("state(2)", x.state(2), 126);
        due("can()", x.can(), 129);
        reign(x, "AH", 2);
        due("state(2)", x.state(2), 255);
    }

    // ---- 4 say, 5 wipe

    public static void promise04_codes33To126() {
        PortraitRule x = new PortraitRule();
        for (int sign = 33; sign <= 126; sign++) {
            due("say(" + sign + ")", x.say(sign), 1);
            due("wipe()", x.wipe(), 1);
        }
        for (int sign : new int[] {32, 127, 0, -1, 128, 256 + 97, LEAST, MOST}) {
            refused("say(" + sign + ")", OUTSIDE, y -> y.say(sign));
        }
    }

    public static void promise04_sixtySignsAtMost() {
        PortraitRule x = new PortraitRule();
        for (int sign = 1; sign <= 60; sign++) {
            due("say(115)", x.say('s'), sign);
        }
        due("say(115), the 61st", x.say('s'), FULL);
        due("told(0)", x.told(0), 60);
        refusedIn(BRIMFUL, "say(115)", FULL, y -> y.say('s'));
        refusedIn(BRIMFUL, "say(97)", FULL, y -> y.say('a'));
        refusedIn(BRIMFUL, "say(33)", FULL, y -> y.say(33));
        refusedIn(BRIMFUL, "say(126)", FULL, y -> y.say(126));
    }

    public static void promise04_outsideAheadOfFull() {
        refusedIn(BRIMFUL, "say(32)", OUTSIDE, y -> y.say(32));
        refusedIn(BRIMFUL, "say(127)", OUTSIDE, y -> y.say(127));
    }

    public static void promise04_roomAgainBehindDoneAndWipe() {
        PortraitRule x = new PortraitRule();
        write(x, "s".repeat(60));
        due("done()", x.done(), 60);
        due("say(115)", x.say('s'), 1);
        write(x, "s".repeat(60));
        due("wipe()", x.wipe(), 60);
        due("say(115)", x.say('s'), 1);
    }

    public static void promise05_emptyAndFull() {
        PortraitRule x = new PortraitRule();
        due("wipe() of none", x.wipe(), 0);
        x.say('s');
        due("wipe() of one", x.wipe(), 1);
        write(x, "s".repeat(59));
        due("wipe() of 59", x.wipe(), 59);
        write(x, "s".repeat(61));
        due("wipe() of 60", x.wipe(), 60);
        due("wipe() again", x.wipe(), 0);
        due("told(0)", x.told(0), 0);
    }

    public static void promise05_signsThatWentDoNotCount() {
        PortraitRule x = new PortraitRule();
        write(x, "s?");
        due("fault()", x.fault(), 1);
        due("wipe()", x.wipe(), 2);
        due("fault()", x.fault(), NONE);
        due("say(115)", x.say('s'), 1);
        due("fault()", x.fault(), NONE);
        due("done()", x.done(), 1);
    }

    public static void promise05_nothingElseGoes() {
        unchanged(NEW, "wipe() of none", PortraitRule::wipe);
        PortraitRule x = realm(BRIMFUL);
        x.wipe();
        states(x, 255, 255, 255, 1);
        due("told(1)", x.told(1), 8);
        due("restore(0)", x.restore(0), 1);
        states(x, 15, 15, 7, 1);
    }

    // ---- 6 fault

    public static void promise06_everySignAtTheBegin() {
        PortraitRule x = new PortraitRule();
        for (int sign = 33; sign <= 126; sign++) {
            x.wipe();
            x.say(sign);
            boolean stands = sign >= 'a' && sign <= 'h' || sign >= 'A' && sign <= 'H' || sign == 's';
            due("fault() of " + (char) sign, x.fault(), sign == '/' ? 1 : stands ? NONE : 0);
        }
    }

    public static void promise06_everySignBehindTheStroke() {
        PortraitRule x = new PortraitRule();
        for (int sign = 33; sign <= 126; sign++) {
            x.wipe();
            x.say('/');
            x.say(sign);
            due("fault() of /" + (char) sign, x.fault(), sign >= 'a' && sign <= 'h' ? NONE : 1);
        }
    }

    public static void promise06_emptyHasNone() {
        due("fault()", new PortraitRule().fault(), NONE);
    }

    public static void promise06_theLastPlaces() {
        PortraitRule x = new PortraitRule();
        write(x, "s".repeat(59) + "/");
        due("fault(): more must come", x.fault(), 60);
        write(x, "s".repeat(58) + "/");
        due("fault(): more must come", x.fault(), 59);
        due("say(97)", x.say('a'), 60);
        due("fault()", x.fault(), NONE);
        write(x, "s".repeat(59) + "?");
        due("fault()", x.fault(), 59);
        write(x, "s".repeat(58) + "/s");
        due("fault()", x.fault(), 59);
        write(x, "/a".repeat(30));
        due("fault()", x.fault(), NONE);
    }

    public static void promise06_theFirstOfSeveral() {
        PortraitRule x = new PortraitRule();
        write(x, "s?!/");
        due("fault()", x.fault(), 1);
        write(x, "/A/");
        due("fault()", x.fault(), 1);
        write(x, "///");
        due("fault()", x.fault(), 1);
    }

    public static void promise06_stepsThatCanNotBeAreNone() {
        PortraitRule x = new PortraitRule();
        write(x, "a/aAAsBb");
        due("fault()", x.fault(), NONE);
        tellsAlone("fault()", PortraitRule::fault);
    }

    // ---- 7 judge

    public static void promise07_emptyCanBe() {
        PortraitRule x = new PortraitRule();
        judged(x, "", NONE, NONE);
        // also when the last one could not be
        judged(x, "a", 0, 1);
        judged(x, "", NONE, NONE);
        write(x, "sAA");
        due("done()", x.done(), NO);
        due("wipe()", x.wipe(), 3);
        due("done()", x.done(), 0);
    }

    public static void promise07_firstAndLastStep() {
        PortraitRule x = new PortraitRule();
        judged(x, "a", 0, 1);
        judged(x, "s".repeat(59) + "A", 59, 6);
        judged(x, "s".repeat(60), NONE, NONE);
        // a stroke with its letter is one STEP
        judged(x, "sa/aa/aB", 5, 6);
        judged(x, "sa" + "/aa".repeat(19), NONE, NONE);
        judged(x, "sa" + "/aa".repeat(19) + "a", 40, 2);
    }

    public static void promise07_onlyTheFirstIsTold() {
        PortraitRule x = new PortraitRule();
        judged(x, "sB/a", 1, 6);
        judged(x, "/aAA", 0, 4);
    }

    public static void promise07_reason1HeDoesNotSit() {
        PortraitRule x = new PortraitRule();
        judged(x, "h", 0, 1);
        judged(x, "ssh", 2, 1);
        judged(x, "sh", NONE, NONE);
    }

    public static void promise07_reason2ThePartIsDone() {
        PortraitRule x = new PortraitRule();
        x.part(7, 9, 0, 128);
        judged(x, "shhhhhhhhh", NONE, NONE);
        judged(x, "shhhhhhhhhh", 10, 2);
        judged(x, "saa", 2, 2);
    }

    public static void promise07_reason3WhatIsUnderItIsNotDone() {
        PortraitRule x = chain(2);
        x.part(7, 1, 3, 0);
        judged(x, "sb", 1, 3);
        judged(x, "sab", 2, 3);
        judged(x, "saab", NONE, NONE);
        judged(x, "saabh", 4, 3);
        judged(x, "saabbh", NONE, NONE);
        // it needs what is UNDER it, not all that is ahead of it
        x.part(6, 1, 1, 0);
        judged(x, "saag", NONE, NONE);
    }

    public static void promise07_reason4NothingOfItIsPainted() {
        PortraitRule x = new PortraitRule();
        x.part(0, 2, 0, 1);
        judged(x, "/a", 0, 4);
        judged(x, "s/a", 1, 4);
        // one hour is enough, and he need not sit for it
        judged(x, "sa/a", NONE, NONE);
        judged(x, "sas/a", NONE, NONE);
        judged(x, "sa/a/a", 3, 4);
    }

    public static void promise07_reason5TheActIsInForce() {
        PortraitRule x = new PortraitRule();
        judged(x, "HH", 1, 5);
        judged(x, "shHH", 3, 5);
        // repealed, it can be made again
        judged(x, "shH/hhH", NONE, NONE);
    }

    public static void promise07_reason6APowerIsNotThere() {
        PortraitRule x = new PortraitRule();
        x.part(0, 2, 0, 1);
        x.needs(1, 0);
        x.needs(2, 3);
        x.part(7, 1, 0, 0);
        judged(x, "sA", 1, 6);
        judged(x, "saA", 2, 6);
        judged(x, "saaA", NONE, NONE);
        judged(x, "sB", NONE, NONE);
        judged(x, "saaC", 3, 6);
        judged(x, "saabC", NONE, NONE);
        // he who does not sit has all, also what no PART gives
        judged(x, "ACH", NONE, NONE);
        judged(x, "saabcdefghH", 10, 6);
        judged(x, "sasA", NONE, NONE);
    }

    public static void promise07_theLeastOfTwoReasons() {
        PortraitRule x = chain(1);
        // 1 and 2
        judged(x, "sasa", 3, 1);
        // 1 and 3
        judged(x, "b", 0, 1);
        // 5 and 6
        judged(x, "BsB", 2, 5);
    }

    public static void promise07_what0And1() {
        for (int what : NEITHER) {
            refused("judge(" + what + ")", OUTSIDE, y -> y.judge(what));
        }
        tellsAlone("judge(0)", y -> y.judge(0));
        tellsAlone("judge(1)", y -> y.judge(1));
    }

    public static void promise07_noIfThereIsAFault() {
        refusedIn(FAULTY, "judge(0)", NO, y -> y.judge(0));
        refusedIn(FAULTY, "judge(1)", NO, y -> y.judge(1));
        PortraitRule x = new PortraitRule();
        // a STEP ahead of the FAULT can not be, too
        judged(x, "a?", NO, NO);
        judged(x, "/a/", NO, NO);
        judged(x, "s".repeat(59) + "/", NO, NO);
    }

    // ---- 8 done

    public static void promise08_emptyAndFull() {
        PortraitRule x = new PortraitRule();
        due("done() of none", x.done(), 0);
        reign(x, "s".repeat(60), 60);
        due("told(0)", x.told(0), 0);
        due("state(3)", x.state(3), 0);
        due("done() again", x.done(), 0);
        reign(x, "sa" + "/aa".repeat(19), 40);
        states(x, 1, 1, 0, 1);
    }

    public static void promise08_noIfThereIsAFault() {
        refusedIn(FAULTY, "done()", NO, PortraitRule::done);
        PortraitRule x = new PortraitRule();
        reign(x, "sa/", NO);
        due("told(0)", x.told(0), 3);
        due("say(97)", x.say('a'), 4);
        due("done()", x.done(), 3);
        states(x, 0, 0, 0, 1);
    }

    public static void promise08_noIfAStepCanNotBe() {
        refusedIn(IMPOSSIBLE, "done()", NO, PortraitRule::done);
        PortraitRule x = new PortraitRule();
        // the last one alone can not be: the others are not done, either
        reign(x, "Hsabcdefghh", NO);
        states(x, 0, 0, 0, 0);
        due("told(0)", x.told(0), 11);
        for (int part = 0; part < 8; part++) {
            due("PAINTED of " + part, x.told(13 + 10 * part), 0);
        }
    }

    public static void promise08_paintedOverWithAllThatStandsOnIt() {
        for (int over = 0; over < 8; over++) {
            PortraitRule x = chain(1);
            reign(x, "sabcdefghABCDEFGH", 17);
            reign(x, "/" + (char) ('a' + over), 1);
            states(x, (1 << over) - 1, (1 << over) - 1, (1 << over) - 1, 1);
        }
        PortraitRule y = chain(2);
        reign(y, "saab", 4);
        reign(y, "/a", 1);
        due("told(13)", y.told(13), 0);
        due("told(23)", y.told(23), 0);
    }

    public static void promise08_bySittingAndRisingNothingIsRepealed() {
        PortraitRule x = new PortraitRule();
        reign(x, "ABCDEFGHs", 9);
        states(x, 0, 0, 255, 1);
        reign(x, "s", 1);
        states(x, 0, 0, 255, 0);
    }

    public static void promise08_whileHeStandsNothingIsRepealed() {
        PortraitRule x = new PortraitRule();
        reign(x, "saAs/a", 5);
        states(x, 0, 0, 1, 0);
        reign(x, "sb", 2);
        states(x, 2, 2, 1, 1);
        // the next one while he sits repeals what has hung on nothing since
        reign(x, "/b", 1);
        states(x, 0, 0, 0, 1);
    }

    public static void promise08_anActThatNeedsNothingStays() {
        PortraitRule x = new PortraitRule();
        x.needs(3, 0);
        reign(x, "ABDsa/a", 6);
        states(x, 0, 0, 8, 1);
    }

    public static void promise08_aPowerThatAnotherPartGivesStays() {
        PortraitRule x = new PortraitRule();
        x.part(1, 1, 0, 1);
        reign(x, "sabA/a", 5);
        states(x, 2, 1, 1, 1);
        reign(x, "/b", 1);
        states(x, 0, 0, 0, 1);
    }

    // ---- 9 state

    public static void promise09_what0To3() {
        PortraitRule x = realm(BRIMFUL);
        states(x, 255, 255, 255, 1);
        states(new PortraitRule(), 0, 0, 0, 0);
        for (int what : new int[] {-1, 4, 5, LEAST, MOST}) {
            refused("state(" + what + ")", OUTSIDE, y -> y.state(what));
        }
        for (int what = 0; what < 4; what++) {
            int told = what;
            tellsAlone("state(" + what + ")", y -> y.state(told));
        }
    }

    public static void promise09_doneAtTheLastHour() {
        for (int hours = 1; hours <= 9; hours++) {
            PortraitRule x = new PortraitRule();
            x.part(5, hours, 0, 3);
            reign(x, "s" + "f".repeat(hours - 1), hours);
            states(x, 0, 0, 0, 1);
            due("PAINTED", x.told(63), hours - 1);
            reign(x, "f", 1);
            states(x, 32, 3, 0, 1);
            due("PAINTED", x.told(63), hours);
            reign(x, "f", NO);
        }
    }

    public static void promise09_powersAreThePicturesWhileHeStands() {
        PortraitRule x = new PortraitRule();
        due("state(1)", x.state(1), 0);
        reign(x, "sas", 3);
        due("state(1)", x.state(1), 1);
    }

    // ---- 10 behind

    public static void promise10_what0To5() {
        for (int what : new int[] {-1, 6, 7, LEAST, MOST}) {
            refused("behind(" + what + ")", OUTSIDE, y -> y.behind(what));
        }
        for (int what = 0; what < 6; what++) {
            int told = what;
            tellsAlone("behind(" + what + ")", y -> y.behind(told));
            refusedIn(FAULTY, "behind(" + what + ")", NO, y -> y.behind(told));
            refusedIn(IMPOSSIBLE, "behind(" + what + ")", NO, y -> y.behind(told));
        }
    }

    public static void promise10_emptyIsAsItIsNow() {
        PortraitRule x = new PortraitRule();
        behinds(x, "", 0, 0, 0, 0, 0, 0);
        reign(x, "sabAB/b", 6);
        behinds(x, "", 1, 1, 1, 1, 0, 0);
    }

    public static void promise10_hoursNoneAndMost() {
        PortraitRule x = new PortraitRule();
        for (int part = 0; part < 8; part++) {
            x.part(part, 9, 0, 1 << part);
        }
        behinds(x, "ss", 0, 0, 0, 0, 0, 0);
        String hours = "a".repeat(9) + "b".repeat(9) + "c".repeat(9) + "d".repeat(9) + "e".repeat(9) + "f".repeat(9) + "g".repeat(5);
        behinds(x, "s" + hours, 63, 63, 0, 1, 59, 0);
    }

    public static void promise10_hoursThatWerePaintedOverCount() {
        PortraitRule x = new PortraitRule();
        behinds(x, "sa/aa/aa/a", 0, 0, 0, 1, 3, 0);
    }

    public static void promise10_repealedNoneAndAll() {
        PortraitRule x = new PortraitRule();
        behinds(x, "ABCDEFGHsa/a", 0, 0, 0, 1, 1, 8);
        behinds(x, "ABCDEFGHsas/a", 0, 0, 255, 0, 1, 0);
        // the same one, twice
        behinds(x, "saA/aaA/a", 0, 0, 0, 1, 2, 2);
        // more than there are ACTS: twelve
        behinds(x, "ABCDEFsa/asABCDEFsa/a", 0, 0, 0, 1, 2, 12);
    }

    // ---- 11 can

    public static void promise11_noneAndAll() {
        PortraitRule x = new PortraitRule();
        due("can() while he stands", x.can(), 255);
        reign(x, "s", 1);
        due("can() while he sits, nothing being painted", x.can(), 0);
        reign(x, "abcdefgh", 8);
        due("can() with all DONE", x.can(), 255);
        reign(x, "ABCDEFG", 7);
        due("can()", x.can(), 128);
        reign(x, "H", 1);
        due("can() with all IN FORCE", x.can(), 0);
        reign(x, "s", 1);
        due("can() with all IN FORCE, while he stands", x.can(), 0);
        tellsAlone("can()", PortraitRule::can);
    }

    public static void promise11_anActThatNeedsNothingOrAll() {
        PortraitRule x = new PortraitRule();
        x.needs(0, 0);
        x.needs(7, 255);
        due("can()", x.can(), 255);
        reign(x, "s", 1);
        due("can()", x.can(), 1);
        reign(x, "abcdefg", 7);
        due("can()", x.can(), 127);
        reign(x, "h", 1);
        due("can()", x.can(), 255);
    }

    // ---- 12 lacks

    private static void refusedOfActs(String name, int[] whats, OfAct made) {
        for (int act : NO_EIGHTH) {
            refused(name + "(" + act + ", 0)", UNKNOWN, y -> made.on(y, act, 0));
            refused(name + "(" + act + ", 1)", UNKNOWN, y -> made.on(y, act, 1));
        }
        for (int what : whats) {
            refused(name + "(0, " + what + ")", OUTSIDE, y -> made.on(y, 0, what));
            refused(name + "(7, " + what + ")", OUTSIDE, y -> made.on(y, 7, what));
            refused(name + "(8, " + what + ")", UNKNOWN, y -> made.on(y, 8, what));
            refused(name + "(-1, " + what + ")", UNKNOWN, y -> made.on(y, -1, what));
        }
        for (int act = 0; act < 8; act++) {
            int one = act;
            tellsAlone(name + "(" + act + ", 0)", y -> made.on(y, one, 0));
            tellsAlone(name + "(" + act + ", 1)", y -> made.on(y, one, 1));
        }
    }

    private interface OfAct {
        long on(PortraitRule x, int act, int what);
    }

    public static void promise12_refusals() {
        refusedOfActs("lacks", NEITHER, PortraitRule::lacks);
    }

    public static void promise12_everyAct() {
        PortraitRule x = new PortraitRule();
        for (int act = 0; act < 8; act++) {
            lacks(x, act, 1, 1 << act);
        }
    }

    public static void promise12_mostHours() {
        PortraitRule x = chain(9);
        lacks(x, 7, 72, 255);
        lacks(x, 0, 9, 1);
        reign(x, "saaaaaaaa", 9);
        lacks(x, 7, 64, 255);
        lacks(x, 0, 1, 1);
        reign(x, "a", 1);
        lacks(x, 7, 63, 254);
        lacks(x, 0, 0, 0);
    }

    public static void promise12_nothingIsLacked() {
        PortraitRule x = new PortraitRule();
        x.needs(3, 0);
        lacks(x, 3, 0, 0);
        reign(x, "sa", 2);
        lacks(x, 0, 0, 0);
        // that he has all POWERS while he stands is not of the picture
        lacks(new PortraitRule(), 0, 1, 1);
    }

    public static void promise12_noneIfNoPartGivesIt() {
        PortraitRule x = new PortraitRule();
        x.part(7, 1, 0, 0);
        lacks(x, 7, NONE, NONE);
        x.needs(0, 255);
        lacks(x, 0, NONE, NONE);
        x.part(7, 1, 0, 128);
        lacks(x, 0, 8, 255);
    }

    public static void promise12_leastAsBitsOfAsFewHours() {
        PortraitRule x = alike(1);
        lacks(x, 0, 1, 1);
        x.part(0, 2, 0, 1);
        lacks(x, 0, 1, 2);
        // a and b by an hour each, or c by two: two hours
        PortraitRule y = new PortraitRule();
        y.part(2, 2, 0, 3);
        y.needs(7, 3);
        lacks(y, 7, 2, 3);
        // a by two, or b and c by one each: two hours
        PortraitRule z = new PortraitRule();
        z.part(0, 2, 0, 6);
        z.needs(7, 6);
        lacks(z, 7, 2, 1);
        // fewer hours go ahead of lesser bits
        z.part(0, 3, 0, 6);
        lacks(z, 7, 2, 6);
    }

    public static void promise12_actsInForceToo() {
        PortraitRule x = new PortraitRule();
        reign(x, "A", 1);
        lacks(x, 0, 1, 1);
    }

    // ---- 13 plan

    public static void promise13_sets0To255() {
        PortraitRule x = new PortraitRule();
        plans(x, 0, 0, 0, 0);
        plans(x, 255, 0, 8, 255);
        plans(x, 0, 255, 0, 0);
        plans(x, 127, 128, 7, 127);
        plans(x, 128, 127, 1, 128);
        for (int what = 0; what < 2; what++) {
            int told = what;
            for (int set : new int[] {-1, 256, LEAST, MOST}) {
                refused("plan(" + set + ", 0, " + what + ")", OUTSIDE, y -> y.plan(set, 0, told));
                refused("plan(0, " + set + ", " + what + ")", OUTSIDE, y -> y.plan(0, set, told));
            }
            tellsAlone("plan(85, 170, " + what + ")", y -> y.plan(85, 170, told));
            tellsAlone("plan(255, 0, " + what + ")", y -> y.plan(255, 0, told));
        }
    }

    public static void promise13_notBothOfAnAct() {
        for (int act = 0; act < 8; act++) {
            int bit = 1 << act;
            refused("plan(" + bit + ", " + bit + ", 0)", OUTSIDE, y -> y.plan(bit, bit, 0));
            refused("plan(255, " + bit + ", 1)", OUTSIDE, y -> y.plan(255, bit, 1));
        }
    }

    public static void promise13_what0And1() {
        for (int what : NEITHER) {
            refused("plan(1, 2, " + what + ")", OUTSIDE, y -> y.plan(1, 2, what));
            refused("plan(1, 1, " + what + ")", OUTSIDE, y -> y.plan(1, 1, what));
        }
    }

    public static void promise13_noneIfAnUnwantedOneCanNotBeKeptAway() {
        PortraitRule x = new PortraitRule();
        x.needs(7, 0);
        plans(x, 0, 128, NONE, NONE);
        plans(x, 128, 0, 0, 0);
        // the same NEEDS, wanted and not
        x.needs(1, 1);
        plans(x, 1, 2, NONE, NONE);
        // the picture gives it already
        reign(x, "sc", 2);
        plans(x, 0, 4, NONE, NONE);
        plans(x, 1, 4, NONE, NONE);
        plans(x, 1, 8, 1, 1);
    }

    public static void promise13_noneIfNoPartGivesIt() {
        PortraitRule x = new PortraitRule();
        x.part(5, 1, 0, 0);
        plans(x, 32, 0, NONE, NONE);
        plans(x, 255, 0, NONE, NONE);
        plans(x, 223, 32, 7, 223);
    }

    public static void promise13_notAllOfWhatAnUnwantedOneNeeds() {
        PortraitRule x = new PortraitRule();
        x.needs(7, 3);
        // one of its two POWERS may be
        plans(x, 1, 128, 1, 1);
        plans(x, 2, 128, 1, 2);
        plans(x, 3, 128, NONE, NONE);
    }

    public static void promise13_hoursGoAheadOfBits() {
        PortraitRule x = new PortraitRule();
        x.part(0, 9, 0, 1);
        x.part(6, 8, 0, 1);
        plans(x, 1, 0, 8, 64);
        x.part(6, 9, 0, 1);
        plans(x, 1, 0, 9, 1);
        x.part(0, 9, 0, 3);
        plans(x, 1, 2, 9, 64);
    }

    public static void promise13_besidesThoseThatAreDone() {
        PortraitRule x = chain(9);
        reign(x, "saaaaaaaaabb", 12);
        plans(x, 2, 0, 7, 2);
        plans(x, 128, 0, 61, 254);
        plans(x, 1, 2, 0, 0);
        plans(x, 2, 1, NONE, NONE);
    }

    // ---- 14 orders

    public static void promise14_mostAndFewest() {
        PortraitRule x = new PortraitRule();
        due("orders() of eight beside one another", x.orders(), 40320);
        due("orders() of a chain", chain(9).orders(), 1);
        PortraitRule y = realm(BRIMFUL);
        due("orders() with all DONE", y.orders(), 1);
        tellsAlone("orders()", PortraitRule::orders);
    }

    public static void promise14_partsThatAreBegunCountAsNotDone() {
        PortraitRule x = new PortraitRule();
        x.part(0, 2, 0, 1);
        reign(x, "scdefgh", 7);
        due("orders()", x.orders(), 2);
        reign(x, "a", 1);
        due("orders()", x.orders(), 2);
        reign(x, "a", 1);
        due("orders()", x.orders(), 1);
        reign(x, "b", 1);
        due("orders()", x.orders(), 1);
    }

    public static void promise14_whateverWasAskedAheadOfIt() {
        PortraitRule x = new PortraitRule();
        reign(x, "sabcde", 6);
        // hidden and turns look at the empty picture, too, from which orders does not begin
        due("hidden(0)", x.hidden(0), 256);
        due("orders()", x.orders(), 6);
        turns(x, 7, 0, 7);
        due("orders()", x.orders(), 6);
        due("orders() again", x.orders(), 6);
    }

    public static void promise14_oneUnderAll() {
        PortraitRule x = new PortraitRule();
        for (int part = 1; part < 8; part++) {
            x.part(part, 1, 1, 0);
        }
        due("orders()", x.orders(), 5040);
        PortraitRule y = new PortraitRule();
        y.part(7, 1, 127, 0);
        due("orders()", y.orders(), 5040);
    }

    // ---- 15 bar

    public static void promise15_refusals() {
        refusedOfActs("bar", NEITHER, PortraitRule::bar);
    }

    public static void promise15_noneIfItDoesNotAsItIs() {
        PortraitRule x = new PortraitRule();
        for (int act = 0; act < 8; act++) {
            bars(x, act, NONE, NONE);
        }
        // one of two POWERS is there, and an hour of two is painted
        x.part(1, 2, 0, 2);
        x.needs(7, 3);
        reign(x, "sab", 3);
        bars(x, 7, NONE, NONE);
        reign(x, "b", 1);
        bars(x, 7, 1, 1);
    }

    public static void promise15_noneIfItNeedsNothing() {
        PortraitRule x = realm(BRIMFUL);
        bars(x, 7, 1, 128);
        x.needs(7, 0);
        bars(x, 7, NONE, NONE);
        PortraitRule y = new PortraitRule();
        y.needs(0, 0);
        bars(y, 0, NONE, NONE);
    }

    public static void promise15_oneAndEight() {
        PortraitRule x = alike(1);
        reign(x, "sabcdefgh", 9);
        bars(x, 0, 8, 255);
        reign(x, "/a", 1);
        bars(x, 0, 7, 254);
        PortraitRule y = chain(1);
        for (int part = 0; part < 8; part++) {
            y.part(part, 1, part == 0 ? 0 : 1 << (part - 1), 1);
        }
        reign(y, "sabcdefgh", 9);
        bars(y, 0, 1, 1);
    }

    public static void promise15_leastAsBitsOfAsFew() {
        PortraitRule x = chain(1);
        reign(x, "sabcdefgh", 9);
        // each of a to h takes it away: a
        bars(x, 7, 1, 1);
        PortraitRule y = realm(BRIMFUL);
        y.needs(0, 224);
        bars(y, 0, 1, 32);
        // as few, though greater as bits
        y.part(0, 1, 0, 32);
        y.part(1, 1, 0, 32);
        reign(y, "ab", 2);
        bars(y, 0, 1, 64);
    }

    // ---- 16 falls

    public static void promise16_refusals() {
        refusedOfActs("falls", NEITHER, PortraitRule::falls);
    }

    public static void promise16_nothingIsPainted() {
        PortraitRule x = new PortraitRule();
        for (int part = 0; part < 8; part++) {
            falls(x, part, 0, 0);
        }
    }

    public static void promise16_allFalls() {
        PortraitRule x = chain(1);
        reign(x, "sabcdefgh", 9);
        for (int part = 0; part < 8; part++) {
            int rest = 255 & -(1 << part);
            falls(x, part, rest, rest);
        }
    }

    public static void promise16_hoursThatAreNotDoneFallWithoutPowers() {
        PortraitRule x = chain(2);
        reign(x, "sa", 2);
        falls(x, 0, 1, 0);
        reign(x, "ab", 2);
        falls(x, 0, 3, 1);
        falls(x, 1, 2, 0);
        // c has b UNDER it, and nothing of it is PAINTED
        reign(x, "b", 1);
        falls(x, 1, 2, 2);
        falls(x, 2, 0, 0);
    }

    public static void promise16_powersThatOthersGiveStay() {
        PortraitRule x = alike(255);
        x.part(7, 1, 64, 255);
        reign(x, "sgh", 3);
        falls(x, 7, 128, 0);
        falls(x, 6, 192, 255);
        reign(x, "a", 1);
        falls(x, 6, 192, 0);
    }

    // ---- 17 alone

    public static void promise17_refusals() {
        for (int act : NO_EIGHTH) {
            refused("alone(" + act + ")", UNKNOWN, y -> y.alone(act));
        }
        for (int act = 0; act < 8; act++) {
            int one = act;
            tellsAlone("alone(" + act + ")", y -> y.alone(one));
        }
    }

    public static void promise17_noneAndAll() {
        PortraitRule x = new PortraitRule();
        for (int act = 0; act < 8; act++) {
            due("alone(" + act + ")", x.alone(act), 1 << act);
        }
        x.needs(0, 3);
        due("alone(0)", x.alone(0), 0);
        x.needs(7, 0);
        due("alone(7), which NEEDS nothing", x.alone(7), 255);
        PortraitRule y = alike(255);
        y.needs(0, 255);
        due("alone(0), which NEEDS all", y.alone(0), 255);
        y.part(3, 1, 0, 254);
        due("alone(0)", y.alone(0), 247);
    }

    public static void promise17_doneOrNot() {
        PortraitRule x = new PortraitRule();
        due("alone(0)", x.alone(0), 1);
        reign(x, "sa", 2);
        due("alone(0)", x.alone(0), 1);
        due("alone(1)", x.alone(1), 2);
    }

    // ---- 18 guard

    public static void promise18_refusals() {
        refusedOfActs("guard", NEITHER, PortraitRule::guard);
    }

    public static void promise18_noneIfAllEightAreNotEnough() {
        PortraitRule x = new PortraitRule();
        x.part(7, 1, 0, 255);
        for (int act = 0; act < 8; act++) {
            guards(x, act, NONE, NONE);
        }
        x.needs(0, 255);
        guards(x, 0, NONE, NONE);
        x.needs(0, 0);
        guards(x, 0, NONE, NONE);
    }

    public static void promise18_allEightAreEnough() {
        PortraitRule x = new PortraitRule();
        for (int part = 0; part < 8; part++) {
            x.part(part, 1, 0, 255 - (1 << part));
        }
        x.needs(0, 0);
        guards(x, 0, 8, 255);
        guards(x, 7, 7, 127);
        x.needs(0, 254);
        guards(x, 0, 1, 1);
        x.needs(0, 255);
        guards(x, 0, 0, 0);
    }

    public static void promise18_noneMoreIsNeeded() {
        PortraitRule x = new PortraitRule();
        x.needs(0, 3);
        guards(x, 0, 0, 0);
        PortraitRule y = alike(0);
        guards(y, 7, 0, 0);
        y.needs(7, 0);
        guards(y, 7, 1, 1);
    }

    public static void promise18_leastAsBitsOfAsFew() {
        PortraitRule x = new PortraitRule();
        guards(x, 0, 1, 2);
        guards(x, 1, 1, 1);
        x.part(0, 1, 0, 127);
        guards(x, 1, 1, 128);
        // one greater POWER goes ahead of two lesser ones
        x.part(1, 1, 0, 253);
        guards(x, 0, 2, 130);
    }

    // ---- 19 seen, 20 forget

    public static void promise19_acts0To7() {
        PortraitRule x = new PortraitRule();
        for (int act = 0; act < 8; act++) {
            due("seen(0, " + act + ", true)", x.seen(0, act, true), act + 1);
        }
        for (int act : NO_EIGHTH) {
            refused("seen(0, " + act + ", true)", UNKNOWN, y -> y.seen(0, act, true));
            refused("seen(60, " + act + ", false)", UNKNOWN, y -> y.seen(60, act, false));
        }
    }

    public static void promise19_steps0To60() {
        PortraitRule x = new PortraitRule();
        due("seen(0, 0, true)", x.seen(0, 0, true), 1);
        due("seen(60, 0, true)", x.seen(60, 0, true), 2);
        for (int steps : new int[] {-1, 61, LEAST, MOST}) {
            refused("seen(" + steps + ", 0, true)", OUTSIDE, y -> y.seen(steps, 0, true));
            refused("seen(" + steps + ", 7, false)", OUTSIDE, y -> y.seen(steps, 7, false));
        }
    }

    public static void promise19_eightAtMost() {
        PortraitRule x = new PortraitRule();
        for (int sights = 1; sights <= 8; sights++) {
            due("seen(5, 3, true)", x.seen(5, 3, true), sights);
        }
        due("seen(5, 3, true), the ninth", x.seen(5, 3, true), FULL);
        due("told(1)", x.told(1), 8);
        refusedIn(BRIMFUL, "seen(0, 0, false)", FULL, y -> y.seen(0, 0, false));
        refusedIn(BRIMFUL, "seen(60, 7, true)", FULL, y -> y.seen(60, 7, true));
    }

    public static void promise19_whichRefusalGoesFirst() {
        refused("seen(61, 8, true)", UNKNOWN, y -> y.seen(61, 8, true));
        refused("seen(-1, -1, true)", UNKNOWN, y -> y.seen(-1, -1, true));
        refusedIn(BRIMFUL, "seen(0, 8, true)", UNKNOWN, y -> y.seen(0, 8, true));
        refusedIn(BRIMFUL, "seen(61, 0, true)", OUTSIDE, y -> y.seen(61, 0, true));
        refusedIn(BRIMFUL, "seen(-1, 0, true)", OUTSIDE, y -> y.seen(-1, 0, true));
        refusedIn(BRIMFUL, "seen(61, -1, true)", UNKNOWN, y -> y.seen(61, -1, true));
    }

    public static void promise20_emptyAndFull() {
        PortraitRule x = new PortraitRule();
        due("forget() of none", x.forget(), 0);
        x.seen(4, 0, false);
        due("forget() of one", x.forget(), 1);
        for (int sight = 0; sight < 8; sight++) {
            x.seen(60, sight, false);
        }
        hidden(x, 1, 0, 0);
        due("forget() of eight", x.forget(), 8);
        due("forget() again", x.forget(), 0);
        hidden(x, 256, 0, 255);
        due("seen(0, 0, true), there is room again", x.seen(0, 0, true), 1);
        hidden(x, 128, 1, 255);
        unchanged(NEW, "forget() of none", PortraitRule::forget);
    }

    public static void promise20_sightsThatWentDoNotCount() {
        PortraitRule x = new PortraitRule();
        for (int sight = 0; sight < 8; sight++) {
            x.seen(60, 7, true);
        }
        due("forget()", x.forget(), 8);
        // the last STEP of which there is a SIGHT is the third one, not the sixtieth
        x.seen(3, 0, false);
        hidden(x, 128, 0, 254);
        tries(x, 1, 64);
    }

    // ---- 21 hidden

    public static void promise21_what0To2() {
        for (int what : new int[] {-1, 3, 4, LEAST, MOST}) {
            refused("hidden(" + what + ")", OUTSIDE, y -> y.hidden(what));
        }
        for (int what = 0; what < 3; what++) {
            int told = what;
            tellsAlone("hidden(" + what + ")", y -> y.hidden(told));
        }
    }

    public static void promise21_withoutSightsAllPicturesCanBe() {
        hidden(new PortraitRule(), 256, 0, 255);
        hidden(chain(1), 9, 0, 255);
        // the picture that is known is another one
        PortraitRule x = chain(1);
        reign(x, "sab", 3);
        hidden(x, 9, 0, 255);
    }

    public static void promise21_bothNoughtIfThereAreNone() {
        PortraitRule x = new PortraitRule();
        x.seen(7, 3, true);
        x.seen(7, 3, false);
        hidden(x, 0, 0, 0);
        PortraitRule y = new PortraitRule();
        y.needs(0, 0);
        y.seen(0, 0, false);
        hidden(y, 0, 0, 0);
        PortraitRule z = new PortraitRule();
        z.part(0, 1, 0, 0);
        z.seen(60, 0, true);
        hidden(z, 0, 0, 0);
    }

    public static void promise21_oneIsLeft() {
        PortraitRule x = new PortraitRule();
        for (int act = 0; act < 8; act++) {
            x.seen(60, act, act % 2 == 0);
        }
        hidden(x, 1, 85, 85);
        PortraitRule y = new PortraitRule();
        y.needs(7, 255);
        y.seen(0, 7, true);
        hidden(y, 1, 255, 255);
    }

    public static void promise21_anActThatNeedsNothingTellsNothing() {
        PortraitRule x = new PortraitRule();
        x.needs(0, 0);
        x.seen(30, 0, true);
        hidden(x, 256, 0, 255);
    }

    public static void promise21_whatWasStaysAndMoreMayCome() {
        PortraitRule x = new PortraitRule();
        x.seen(0, 0, true);
        x.seen(60, 1, false);
        hidden(x, 64, 1, 253);
        PortraitRule y = new PortraitRule();
        // told later, though it was ahead
        y.seen(60, 0, true);
        y.seen(59, 0, false);
        hidden(y, 128, 1, 255);
        PortraitRule z = new PortraitRule();
        z.seen(59, 0, true);
        z.seen(60, 0, false);
        hidden(z, 0, 0, 0);
    }

    public static void promise21_thereWereSuchOnesBehindTheOthers() {
        PortraitRule x = chain(1);
        // b without a: there is no such picture, though each SIGHT by itself can be
        x.seen(3, 1, true);
        x.seen(3, 0, false);
        x.seen(40, 7, false);
        hidden(x, 0, 0, 0);
        PortraitRule y = new PortraitRule();
        y.part(1, 1, 1, 2);
        y.seen(1, 1, false);
        y.seen(1, 0, true);
        y.seen(2, 1, true);
        hidden(y, 64, 3, 255);
        // between two others that it can not be between
        PortraitRule z = new PortraitRule();
        z.seen(1, 2, true);
        z.seen(2, 2, false);
        z.seen(3, 2, true);
        hidden(z, 0, 0, 0);
    }

    public static void promise21_eightSightsAtEightSteps() {
        PortraitRule x = chain(1);
        for (int sight = 0; sight < 8; sight++) {
            x.seen(60 - sight, 7 - sight, sight > 0);
        }
        // h was not behind the last STEP, g was behind that ahead of it
        hidden(x, 1, 127, 127);
    }

    // ---- 22 tries

    public static void promise22_what0And1() {
        for (int what : NEITHER) {
            refused("tries(" + what + ")", OUTSIDE, y -> y.tries(what));
        }
        tellsAlone("tries(0)", y -> y.tries(0));
        tellsAlone("tries(1)", y -> y.tries(1));
    }

    public static void promise22_noneIfThereAreNone() {
        PortraitRule x = new PortraitRule();
        x.seen(7, 3, true);
        tries(x, 0, 64);
        x.seen(7, 3, false);
        tries(x, NONE, NONE);
    }

    public static void promise22_theLeastOfAsGood() {
        PortraitRule x = new PortraitRule();
        tries(x, 0, 128);
        x.seen(1, 0, true);
        tries(x, 1, 64);
        for (int act = 1; act < 7; act++) {
            x.seen(1, act, true);
        }
        tries(x, 7, 1);
        x.seen(1, 7, true);
        // one is left, whatever is tried
        tries(x, 0, 1);
    }

    public static void promise22_noTryTellsAnything() {
        PortraitRule x = new PortraitRule();
        for (int act = 0; act < 8; act++) {
            x.needs(act, 0);
        }
        tries(x, 0, 256);
        x.needs(7, 255);
        tries(x, 7, 255);
    }

    public static void promise22_theMiddleOfAChain() {
        // nine pictures; by d 4 are without it and 5 with it, by e the other way round
        tries(chain(1), 3, 5);
    }

    // ---- 23 send, 24 makes, 25 quarrel, 26 sent

    private static final int[] NO_COLONY = {-1, 4, 5, LEAST, MOST};

    public static void promise23_colonies0To3() {
        PortraitRule x = new PortraitRule();
        reign(x, "sabcdefgh", 9);
        for (int colony = 0; colony < 4; colony++) {
            due("send(" + colony + ")", x.send(colony), 255);
        }
        for (int colony : NO_COLONY) {
            refused("send(" + colony + ")", UNKNOWN, y -> y.send(colony));
        }
    }

    public static void promise23_nothingIsPainted() {
        PortraitRule x = new PortraitRule();
        due("send(0) while he stands", x.send(0), 0);
        reign(x, "sa", 2);
        due("send(0)", x.send(0), 1);
        reign(x, "/a", 1);
        due("told(2), late", x.told(2), 1);
        due("send(0)", x.send(0), 0);
        due("told(2)", x.told(2), 0);
    }

    public static void promise23_whatIsNotDoneGivesNothing() {
        PortraitRule x = new PortraitRule();
        x.part(0, 9, 0, 255);
        reign(x, "saaaaaaaa", 9);
        due("send(3)", x.send(3), 0);
        reign(x, "a", 1);
        due("told(5)", x.told(5), 0);
        due("send(3)", x.send(3), 255);
    }

    public static void promise23_theCopyStaysWhenPartsAreToldAnew() {
        PortraitRule x = new PortraitRule();
        reign(x, "sa", 2);
        due("send(1)", x.send(1), 1);
        x.part(0, 1, 0, 254);
        due("told(3)", x.told(3), 1);
        due("makes(1)", x.makes(1), 1);
    }

    public static void promise24_colonies0To3() {
        PortraitRule x = new PortraitRule();
        for (int colony = 0; colony < 4; colony++) {
            int one = colony;
            due("makes(" + colony + ")", x.makes(colony), 0);
            tellsAlone("makes(" + colony + ")", y -> y.makes(one));
        }
        for (int colony : NO_COLONY) {
            refused("makes(" + colony + ")", UNKNOWN, y -> y.makes(colony));
        }
    }

    public static void promise24_noPowersAndAll() {
        PortraitRule x = new PortraitRule();
        x.needs(7, 0);
        due("makes(0)", x.makes(0), 128);
        for (int act = 0; act < 8; act++) {
            x.needs(act, 0);
        }
        due("makes(0)", x.makes(0), 255);
        x.needs(0, 255);
        x.needs(1, 127);
        reign(x, "sabcdefg", 8);
        x.send(0);
        due("makes(0) by seven", x.makes(0), 254);
        reign(x, "h", 1);
        x.send(0);
        due("makes(0) by eight", x.makes(0), 255);
    }

    public static void promise24_actsInForceAreMadeThereToo() {
        PortraitRule x = new PortraitRule();
        reign(x, "saA", 3);
        x.send(2);
        due("makes(2)", x.makes(2), 1);
    }

    public static void promise25_twoColonies() {
        PortraitRule x = new PortraitRule();
        for (int one = 0; one < 4; one++) {
            for (int other = 0; other < 4; other++) {
                int a = one;
                int b = other;
                due("quarrel(" + one + ", " + other + ")", x.quarrel(one, other), one == other ? UNKNOWN : 0);
                if (one == other) {
                    refused("quarrel(" + one + ", " + one + ")", UNKNOWN, y -> y.quarrel(a, a));
                } else {
                    tellsAlone("quarrel(" + one + ", " + other + ")", y -> y.quarrel(a, b));
                }
            }
        }
    }

    public static void promise25_bothMustBe() {
        for (int colony : NO_COLONY) {
            refused("quarrel(" + colony + ", 0)", UNKNOWN, y -> y.quarrel(colony, 0));
            refused("quarrel(3, " + colony + ")", UNKNOWN, y -> y.quarrel(3, colony));
            refused("quarrel(" + colony + ", " + colony + ")", UNKNOWN, y -> y.quarrel(colony, colony));
        }
        refused("quarrel(-1, 4)", UNKNOWN, y -> y.quarrel(-1, 4));
    }

    public static void promise25_noneAndAll() {
        PortraitRule x = new PortraitRule();
        reign(x, "sabcdefgh", 9);
        x.send(0);
        due("quarrel(0, 3)", x.quarrel(0, 3), 255);
        due("quarrel(3, 0)", x.quarrel(3, 0), 255);
        x.needs(5, 0);
        due("quarrel(0, 3)", x.quarrel(0, 3), 223);
        x.send(3);
        due("quarrel(0, 3)", x.quarrel(0, 3), 0);
        // other POWERS, the same ACTS
        x.part(0, 1, 0, 0);
        x.needs(0, 255);
        x.send(3);
        due("quarrel(0, 3)", x.quarrel(0, 3), 1);
        x.needs(0, 128);
        due("quarrel(0, 3)", x.quarrel(0, 3), 0);
    }

    public static void promise26_noneToFour() {
        PortraitRule x = new PortraitRule();
        due("sent() at first", x.sent(), 0);
        reign(x, "sa", 2);
        due("sent(): they have the same, not the picture's", x.sent(), 0);
        for (int colony = 0; colony < 4; colony++) {
            x.send(colony);
            due("sent() behind send(" + colony + ")", x.sent(), 3 - colony);
        }
        reign(x, "b", 1);
        due("sent(): all have the old ones", x.sent(), 0);
        x.send(3);
        due("sent()", x.sent(), 3);
        reign(x, "c", 1);
        due("sent(): none has those of now", x.sent(), 4);
        tellsAlone("sent()", PortraitRule::sent);
    }

    public static void promise26_theSamePowersByOtherParts() {
        PortraitRule x = alike(6);
        reign(x, "sa", 2);
        x.send(0);
        reign(x, "/ah", 2);
        x.send(1);
        x.send(2);
        x.send(3);
        due("sent()", x.sent(), 0);
    }

    // ---- 27 turns

    public static void promise27_refusals() {
        refusedOfActs("turns", NEITHER, PortraitRule::turns);
    }

    public static void promise27_noneIfItDoesAlready() {
        PortraitRule x = new PortraitRule();
        reign(x, "sa", 2);
        turns(x, 0, NONE, NONE);
        x.needs(7, 0);
        turns(x, 7, NONE, NONE);
        PortraitRule y = realm(BRIMFUL);
        turns(y, 7, NONE, NONE);
    }

    public static void promise27_noneIfItNeverDoes() {
        PortraitRule x = new PortraitRule();
        x.part(7, 1, 0, 0);
        turns(x, 7, NONE, NONE);
        x.needs(0, 129);
        turns(x, 0, NONE, NONE);
        reign(x, "sabcdefgh", 9);
        turns(x, 7, NONE, NONE);
    }

    public static void promise27_whoBeginsWinsAtOnce() {
        PortraitRule x = new PortraitRule();
        for (int act = 0; act < 8; act++) {
            turns(x, act, 0, act);
        }
        turns(alike(1), 0, 0, 0);
    }

    public static void promise27_aChainIsByTurns() {
        PortraitRule x = chain(9);
        for (int act = 0; act < 8; act++) {
            turns(x, act, act % 2, act % 2 == 0 ? 0 : NONE);
        }
        reign(x, "saaaaaaaaa", 10);
        turns(x, 0, NONE, NONE);
        for (int act = 1; act < 8; act++) {
            turns(x, act, 1 - act % 2, act % 2 == 1 ? 1 : NONE);
        }
    }

    public static void promise27_theLastPart() {
        PortraitRule x = new PortraitRule();
        x.needs(0, 255);
        // all eight must be: the last one is the other's
        turns(x, 0, 1, NONE);
        reign(x, "sh", 2);
        turns(x, 0, 0, 0);
        reign(x, "abcdef", 6);
        turns(x, 0, 0, 6);
    }

    public static void promise27_theFirstPartByWhichHeWins() {
        // who takes b opens c, which wins, for the other one
        PortraitRule x = new PortraitRule();
        x.part(2, 1, 2, 4);
        reign(x, "sefgh", 5);
        // a and d are two turns to wait by: then who begins must take b
        turns(x, 2, 1, NONE);
        reign(x, "d", 1);
        turns(x, 2, 0, 0);
        reign(x, "a", 1);
        turns(x, 2, 1, NONE);
        reign(x, "b", 1);
        turns(x, 2, 0, 2);
    }

    // ---- 28 fever

    public static void promise28_acts0To7() {
        for (int act : NO_EIGHTH) {
            for (int i = 0; i < 4; i++) {
                int what = i / 2;
                int part = i % 2;
                refused("fever(" + act + ", 0, 0, " + what + ", " + part + ")", LOST + UNKNOWN, y -> y.fever(act, 0, 0, what, part));
            }
        }
        due("LOST and UNKNOWN", LOST + UNKNOWN, -1000000000000000001L);
        for (int act = 0; act < 8; act++) {
            int one = act;
            tellsAlone("fever(" + act + ", 8, 3, 0, 0)", y -> y.fever(one, 8, 3, 0, 0));
            tellsAlone("fever(" + act + ", 8, 3, 1, 1)", y -> y.fever(one, 8, 3, 1, 1));
        }
    }

    public static void promise28_bounds() {
        int[][] rows = {{-1, 0, 0, 0}, {9, 0, 0, 0}, {LEAST, 0, 0, 0}, {MOST, 0, 0, 0}, {0, -1, 0, 0}, {0, 11, 0, 0}, {0, LEAST, 0, 0},
            {0, MOST, 0, 0}, {0, 0, -1, 0}, {0, 0, 2, 0}, {0, 0, LEAST, 0}, {0, 0, MOST, 0}, {0, 0, 0, -1}, {0, 0, 0, 2}, {0, 0, 0, LEAST},
            {0, 0, 0, MOST}, {9, 11, 2, 2}};
        for (int[] row : rows) {
            String rest = ", " + row[0] + ", " + row[1] + ", " + row[2] + ", " + row[3] + ")";
            refused("fever(0" + rest, LOST + OUTSIDE, y -> y.fever(0, row[0], row[1], row[2], row[3]));
            refused("fever(7" + rest, -1000000000000000002L, y -> y.fever(7, row[0], row[1], row[2], row[3]));
            refused("fever(8" + rest, LOST + UNKNOWN, y -> y.fever(8, row[0], row[1], row[2], row[3]));
            refused("fever(-1" + rest, LOST + UNKNOWN, y -> y.fever(-1, row[0], row[1], row[2], row[3]));
        }
    }

    public static void promise28_noHours() {
        PortraitRule x = new PortraitRule();
        for (int t = 0; t <= 10; t++) {
            chance(x, 0, 0, t, 0, 1);
            mean(x, 0, t, 0, 1);
        }
        x.needs(0, 0);
        chance(x, 0, 0, 5, 1, 1);
    }

    public static void promise28_noTenthsAndAll() {
        PortraitRule x = new PortraitRule();
        for (int m = 0; m <= 8; m++) {
            chance(x, 7, m, 0, m == 8 ? 1 : 0, 1);
            chance(x, 7, m, 10, 0, 1);
            mean(x, m, 0, m, 1);
            mean(x, m, 10, 0, 1);
        }
        reign(x, "sh", 2);
        chance(x, 7, 8, 10, 1, 1);
        mean(x, 8, 0, 7, 1);
    }

    public static void promise28_mostHoursInLowestTerms() {
        PortraitRule x = new PortraitRule();
        x.part(0, 8, 0, 1);
        chance(x, 0, 8, 9, 1, 100000000);
        chance(x, 0, 8, 1, 43046721, 100000000);
        chance(x, 0, 8, 5, 1, 256);
        chance(x, 0, 8, 8, 1, 390625);
        chance(x, 0, 7, 0, 0, 1);
        mean(x, 8, 5, 4, 1);
        mean(x, 8, 9, 4, 5);
        mean(x, 8, 1, 36, 5);
        x.part(0, 9, 0, 1);
        chance(x, 0, 8, 0, 0, 1);
        mean(x, 8, 0, 8, 1);
    }

    public static void promise28_noPartIsLeft() {
        PortraitRule x = new PortraitRule();
        reign(x, "sabcdefg", 8);
        mean(x, 8, 5, 255, 256);
        chance(x, 7, 8, 5, 255, 256);
        reign(x, "h", 1);
        mean(x, 8, 5, 0, 1);
        chance(x, 7, 8, 5, 1, 1);
        mean(x, 8, 0, 0, 1);
    }

    public static void promise28_theLeastPartFirst() {
        PortraitRule x = new PortraitRule();
        // a, then b: b wants two hours that are not lost
        chance(x, 1, 1, 0, 0, 1);
        chance(x, 1, 2, 0, 1, 1);
        chance(x, 1, 2, 5, 1, 4);
        reign(x, "sas", 3);
        // an hour less, also while he stands
        chance(x, 1, 1, 5, 1, 2);
    }

    // ---- 29 year

    public static void promise29_seeds0To9999() {
        PortraitRule x = new PortraitRule();
        years(x, 0, 99, 15, 11, 3);
        years(x, 9999, 99, 14, 12, 10);
        for (int seed : new int[] {-1, 10000, LEAST, MOST}) {
            refused("year(" + seed + ", 1, 0)", OUTSIDE, y -> y.year(seed, 1, 0));
            refused("year(" + seed + ", 99, 2)", OUTSIDE, y -> y.year(seed, 99, 2));
        }
    }

    public static void promise29_steps1To99() {
        PortraitRule x = new PortraitRule();
        years(x, 0, 1, 0, 1, 0);
        years(x, 0, 98, 14, 11, 3);
        years(x, 0, 99, 15, 11, 3);
        for (int m : new int[] {-1, 0, 100, LEAST, MOST}) {
            refused("year(0, " + m + ", 0)", OUTSIDE, y -> y.year(0, m, 0));
            refused("year(9999, " + m + ", 1)", OUTSIDE, y -> y.year(9999, m, 1));
        }
    }

    public static void promise29_what0To2() {
        for (int what : new int[] {-1, 3, LEAST, MOST}) {
            refused("year(0, 1, " + what + ")", OUTSIDE, y -> y.year(0, 1, what));
        }
    }

    public static void promise29_nothingIsDoneInFact() {
        for (int what = 0; what < 3; what++) {
            int told = what;
            tellsAlone("year(1638, 99, " + what + ")", y -> y.year(1638, 99, told));
            tellsAlone("year(9999, 99, " + what + ")", y -> y.year(9999, 99, told));
        }
        PortraitRule x = new PortraitRule();
        years(x, 1638, 99, 11, 17, 15);
        years(x, 1638, 99, 11, 17, 15);
    }

    public static void promise29_fromAllAsItIs() {
        PortraitRule x = new PortraitRule();
        // the first draw of 9999 is an hour at e
        years(x, 9999, 1, 0, 0, 0);
        reign(x, "s", 1);
        years(x, 9999, 1, 1, 0, 0);
        reign(x, "e", 1);
        years(x, 9999, 1, 0, 0, 0);
        // the first draw of 0 is ACT B
        reign(x, "s", 1);
        years(x, 0, 1, 0, 1, 0);
        reign(x, "B", 1);
        years(x, 0, 1, 0, 0, 0);
    }

    // ---- 30 image, 31 restore

    public static void promise30_images0And1() {
        PortraitRule x = new PortraitRule();
        due("image(0)", x.image(0), 1);
        due("image(1)", x.image(1), 1);
        due("image(0) again", x.image(0), 1);
        for (int n : NEITHER) {
            refused("image(" + n + ")", OUTSIDE, y -> y.image(n));
        }
    }

    public static void promise30_theOldOneIsNoMore() {
        PortraitRule x = new PortraitRule();
        x.image(0);
        reign(x, "sa", 2);
        due("image(0)", x.image(0), 1);
        reign(x, "b", 1);
        due("restore(0)", x.restore(0), 1);
        states(x, 1, 1, 0, 1);
    }

    public static void promise30_nothingElseChanges() {
        for (int kind = 0; kind < REALMS; kind++) {
            PortraitRule x = realm(kind);
            x.image(0);
            x.image(1);
            boolean same = lookAtAnswers(x).equals(lookAtAnswers(realm(kind)));
            due("image() in realm " + kind + " changes something: it", same ? 0 : 1, 0);
        }
    }

    public static void promise31_stateIfItWasNotKept() {
        refusedIn(NEW, "restore(0)", STATE, y -> y.restore(0));
        refusedIn(NEW, "restore(1)", STATE, y -> y.restore(1));
        refusedIn(MIDWAY, "restore(1)", STATE, y -> y.restore(1));
        refusedIn(FAULTY, "restore(0)", STATE, y -> y.restore(0));
        refusedIn(IMPOSSIBLE, "restore(1)", STATE, y -> y.restore(1));
        PortraitRule x = new PortraitRule();
        x.image(1);
        due("restore(0)", x.restore(0), STATE);
        due("restore(1)", x.restore(1), 1);
        due("restore(0), not kept by that", x.restore(0), STATE);
    }

    public static void promise31_outsideAheadOfState() {
        for (int n : NEITHER) {
            refused("restore(" + n + ")", OUTSIDE, y -> y.restore(n));
        }
    }

    public static void promise31_allButThePadIsAsItWas() {
        PortraitRule x = realm(BRIMFUL);
        for (int part = 0; part < 8; part++) {
            x.part(part, 9, 0, 0);
        }
        for (int act = 0; act < 8; act++) {
            x.needs(act, 0);
        }
        x.forget();
        for (int colony = 0; colony < 4; colony++) {
            x.send(colony);
        }
        reign(x, "s", 1);
        write(x, "s".repeat(60));
        due("restore(1)", x.restore(1), 1);
        boolean same = lookAtAnswers(x).equals(lookAtAnswers(realm(BRIMFUL)));
        due("behind restore(1) something is not as it was: it", same ? 0 : 1, 0);
    }

    public static void promise31_thePadStays() {
        PortraitRule x = new PortraitRule();
        write(x, "sa");
        x.image(0);
        write(x, "sbc");
        due("restore(0)", x.restore(0), 1);
        due("told(0)", x.told(0), 3);
        due("done()", x.done(), 3);
        states(x, 6, 6, 0, 1);
        due("restore(0)", x.restore(0), 1);
        due("told(0)", x.told(0), 0);
    }

    public static void promise31_againAndAgain() {
        PortraitRule x = new PortraitRule();
        x.image(0);
        reign(x, "saA", 3);
        x.image(1);
        for (int i = 0; i < 3; i++) {
            due("restore(0)", x.restore(0), 1);
            states(x, 0, 0, 0, 0);
            reign(x, "sh", 2);
            x.part(0, 9, 0, 0);
            due("restore(1)", x.restore(1), 1);
            states(x, 1, 1, 1, 1);
            reign(x, "/a", 1);
        }
    }

    public static void promise31_sightsThatWereForgottenComeBack() {
        PortraitRule x = new PortraitRule();
        for (int act = 0; act < 8; act++) {
            x.seen(7, act, act != 3);
        }
        x.image(0);
        x.forget();
        x.seen(1, 3, true);
        due("restore(0)", x.restore(0), 1);
        due("told(1)", x.told(1), 8);
        hidden(x, 1, 247, 247);
        due("seen(7, 0, true)", x.seen(7, 0, true), FULL);
    }

    public static void promise31_sightsComeBackWithStepsActsAndWhetherItCould() {
        PortraitRule x = new PortraitRule();
        x.seen(2, 0, false);
        x.seen(3, 0, true);
        x.seen(3, 1, false);
        x.image(0);
        hidden(x, 64, 1, 253);
        x.forget();
        x.seen(3, 2, true);
        x.seen(2, 3, true);
        x.seen(1, 4, true);
        hidden(x, 32, 28, 255);
        due("restore(0)", x.restore(0), 1);
        hidden(x, 64, 1, 253);
    }

    // ---- 32 told

    public static void promise32_everyNumber() {
        PortraitRule x = new PortraitRule();
        for (int what = -20; what < 200; what++) {
            int part = what / 10 - 1;
            int row = what % 10;
            boolean ofPart = what >= 10 && part < 8 && row < 4;
            boolean ofAct = what >= 100 && what < 108;
            int want = what >= 0 && what < 6 ? 0 : ofAct ? 1 << (what - 100) : !ofPart ? OUTSIDE
                : row == 0 ? 1 : row == 2 ? 1 << part : 0;
            due("told(" + what + ")", x.told(what), want);
        }
    }

    public static void promise32_outside() {
        for (int what : new int[] {-1, 6, 9, 14, 19, 24, 74, 79, 84, 89, 90, 91, 93, 99, 108, 110, 113, LEAST, MOST, MOST - 7}) {
            refused("told(" + what + ")", OUTSIDE, y -> y.told(what));
        }
        for (int what : new int[] {0, 1, 2, 5, 10, 13, 80, 83, 100, 107}) {
            tellsAlone("told(" + what + ")", y -> y.told(what));
        }
    }

    public static void promise32_fullNumbers() {
        PortraitRule x = realm(BRIMFUL);
        due("signs", x.told(0), 60);
        due("SIGHTS", x.told(1), 8);
        for (int colony = 0; colony < 4; colony++) {
            due("POWERS of COLONY " + colony, x.told(2 + colony), 255);
        }
        x.part(7, 9, 127, 255);
        x.needs(7, 255);
        reign(x, "hhhhhhhhh", 9);
        due("HOURS of h", x.told(80), 9);
        due("UNDER of h", x.told(81), 127);
        due("GIVES of h", x.told(82), 255);
        due("PAINTED of h", x.told(83), 9);
        due("NEEDS of H", x.told(107), 255);
    }

    public static void promise32_coloniesInTheirOrder() {
        PortraitRule x = new PortraitRule();
        reign(x, "s", 1);
        for (int colony = 0; colony < 4; colony++) {
            reign(x, "" + (char) ('a' + colony), 1);
            x.send(colony);
        }
        for (int colony = 0; colony < 4; colony++) {
            due("told(" + (2 + colony) + ")", x.told(2 + colony), (2 << colony) - 1);
        }
    }
}
