/** Each promise by hand: ordinary inputs, the edges that the document names, wrong inputs. */
public final class PromiseTest {
    private static final int NONE = -6, UNKNOWN = -1, OUTSIDE = -2, STATE = -3, FULL = -4, NO = -5;
    private static final int LEAST = Integer.MIN_VALUE, MOST = Integer.MAX_VALUE;
    private static int wrong = 0;
    private static String promise = "";

    private static void due(String call, long got, long want) {
        if (got != want) {
            wrong++;
            System.out.println(promise + ": " + call + " answered " + got + ", due is " + want);
        }
    }

    /** Puts a text on the pad in place of what was there. */
    private static void write(PortraitRule x, String text) {
        x.wipe();
        for (char sign : text.toCharArray()) {
            x.say(sign);
        }
    }

    private static void reign(PortraitRule x, String text, int steps) {
        write(x, text);
        due("done() of " + text, x.done(), steps);
    }

    private static void judged(PortraitRule x, String text, int step, int why) {
        write(x, text);
        due("judge(0) of " + text, x.judge(0), step);
        due("judge(1) of " + text, x.judge(1), why);
    }

    private static void states(PortraitRule x, int done, int powers, int force, int sits) {
        due("state(0)", x.state(0), done);
        due("state(1)", x.state(1), powers);
        due("state(2)", x.state(2), force);
        due("state(3)", x.state(3), sits);
    }

    /** a; b on a; c on b; d alone: a chain of three, and one beside it. */
    private static PortraitRule chain() {
        PortraitRule x = new PortraitRule();
        x.part(1, 2, 1, 2);
        x.part(2, 1, 2, 4);
        return x;
    }

    public static void main(String[] args) {
        newObject();
        part();
        needs();
        sayAndWipe();
        fault();
        judge();
        done();
        state();
        behind();
        can();
        lacks();
        plan();
        orders();
        bar();
        falls();
        alone();
        guard();
        seenAndForget();
        hidden();
        tries();
        colonies();
        turns();
        fever();
        year();
        images();
        told();
        if (wrong != 0) {
            System.exit(1);
        }
    }

    private static void newObject() {
        promise = "1 a new object";
        PortraitRule x = new PortraitRule();
        states(x, 0, 0, 0, 0);
        due("can()", x.can(), 255);
        due("fault()", x.fault(), NONE);
        for (int i = 0; i < 8; i++) {
            due("hours of " + i, x.told(10 * (1 + i)), 1);
            due("under of " + i, x.told(10 * (1 + i) + 1), 0);
            due("gives of " + i, x.told(10 * (1 + i) + 2), 1 << i);
            due("painted of " + i, x.told(10 * (1 + i) + 3), 0);
            due("needs of " + i, x.told(100 + i), 1 << i);
        }
        for (int what = 0; what < 6; what++) {
            due("told(" + what + ")", x.told(what), 0);
        }
        due("restore(0)", x.restore(0), STATE);
        due("restore(1)", x.restore(1), STATE);
    }

    private static void part() {
        promise = "2 part";
        PortraitRule x = new PortraitRule();
        due("part(7, 9, 127, 255)", x.part(7, 9, 127, 255), 1);
        due("part(7, 1, 0, 0)", x.part(7, 1, 0, 0), 9);
        int[][] no = {{-1, 1, 0, 0, UNKNOWN}, {8, 1, 0, 0, UNKNOWN}, {LEAST, 0, -1, -1, UNKNOWN}, {MOST, 1, 0, 0, UNKNOWN},
            {0, 0, 0, 0, OUTSIDE}, {0, 10, 0, 0, OUTSIDE}, {0, -1, 0, 0, OUTSIDE}, {0, 1, 1, 0, OUTSIDE}, {3, 1, 8, 0, OUTSIDE},
            {3, 1, -1, 0, OUTSIDE}, {3, 1, 16, 0, OUTSIDE}, {3, 1, LEAST, 0, OUTSIDE}, {3, 1, 0, -1, OUTSIDE}, {3, 1, 0, 256, OUTSIDE}};
        for (int[] row : no) {
            due("part(" + row[0] + ", " + row[1] + ", " + row[2] + ", " + row[3] + ")", x.part(row[0], row[1], row[2], row[3]), row[4]);
        }
        due("told(40)", x.told(40), 1);
        due("part(3, 9, 7, 255)", x.part(3, 9, 7, 255), 1);

        // nothing of it, nor of all that stands on it, is painted then; acts stay in force
        PortraitRule y = chain();
        reign(y, "sabbcdABCD", 10);
        due("part(0, 1, 0, 1)", y.part(0, 1, 0, 1), 1);
        states(y, 8, 8, 15, 1);
        for (int what = 13; what < 40; what += 10) {
            due("told(" + what + ")", y.told(what), 0);
        }
        PortraitRule z = chain();
        reign(z, "sabbcdABCD", 10);
        due("part(1, 3, 0, 9)", z.part(1, 3, 0, 9), 2);
        states(z, 9, 9, 15, 1);
        // a refusal paints nothing over
        due("part(0, 1, 1, 0)", z.part(0, 1, 1, 0), OUTSIDE);
        states(z, 9, 9, 15, 1);
        // what a part has under it stays
        PortraitRule w = chain();
        reign(w, "sabbc", 5);
        due("part(2, 1, 0, 0)", w.part(2, 1, 0, 0), 1);
        states(w, 3, 3, 0, 1);
    }

    private static void needs() {
        promise = "3 needs";
        PortraitRule x = new PortraitRule();
        due("needs(7, 255)", x.needs(7, 255), 128);
        due("needs(7, 0)", x.needs(7, 0), 255);
        due("needs(8, 0)", x.needs(8, 0), UNKNOWN);
        due("needs(-1, 256)", x.needs(-1, 256), UNKNOWN);
        due("needs(0, -1)", x.needs(0, -1), OUTSIDE);
        due("needs(0, 256)", x.needs(0, 256), OUTSIDE);
        reign(x, "AB", 2);
        due("needs(0, 256)", x.needs(0, 256), OUTSIDE);
        due("state(2)", x.state(2), 3);
        due("needs(0, 1)", x.needs(0, 1), 1);
        due("state(2)", x.state(2), 2);
        due("needs(0, 6)", x.needs(0, 6), 1);
        due("state(2)", x.state(2), 2);
    }

    private static void sayAndWipe() {
        promise = "4 say, 5 wipe";
        PortraitRule x = new PortraitRule();
        due("say(32)", x.say(32), OUTSIDE);
        due("say(127)", x.say(127), OUTSIDE);
        due("say(-1)", x.say(-1), OUTSIDE);
        due("say(MOST)", x.say(MOST), OUTSIDE);
        due("wipe()", x.wipe(), 0);
        due("say(33)", x.say(33), 1);
        due("say(126)", x.say(126), 2);
        due("wipe()", x.wipe(), 2);
        for (int i = 1; i <= 60; i++) {
            due("say(115)", x.say(115), i);
        }
        due("say(115)", x.say(115), FULL);
        due("say(32)", x.say(32), OUTSIDE);
        due("told(0)", x.told(0), 60);
        due("fault()", x.fault(), NONE);
        due("done()", x.done(), 60);
        due("say(47)", x.say(47), 1);
        for (int i = 2; i <= 60; i++) {
            due("say(115)", x.say(i == 60 ? 47 : i == 2 ? 97 : 115), i);
        }
        due("fault()", x.fault(), 60);
        due("wipe()", x.wipe(), 60);
        due("wipe()", x.wipe(), 0);
    }

    private static void fault() {
        promise = "6 fault";
        Object[][] rows = {{"", NONE}, {"a", NONE}, {"h", NONE}, {"i", 0}, {"`", 0}, {"A", NONE}, {"H", NONE}, {"I", 0}, {"@", 0},
            {"s", NONE}, {"r", 0}, {"t", 0}, {"S", 0}, {"/", 1}, {"//", 1}, {"/a", NONE}, {"/h", NONE}, {"/i", 1}, {"/A", 1},
            {"/s", 1}, {"/a/", 3}, {"/a/b", NONE}, {"ss/a//", 5}, {"sab.", 3}, {"0", 0}, {"!a", 0}, {"~", 0}, {"aAs/hHs~/", 7}, {"/a/a/", 5}};
        for (Object[] row : rows) {
            PortraitRule x = new PortraitRule();
            write(x, (String) row[0]);
            due("fault() of " + row[0], x.fault(), (Integer) row[1]);
        }
    }

    private static void judge() {
        promise = "7 judge";
        PortraitRule x = chain();
        judged(x, "", NONE, NONE);
        judged(x, "a", 0, 1);
        judged(x, "sb", 1, 3);
        judged(x, "saa", 2, 2);
        judged(x, "sabc", 3, 3);
        judged(x, "sabbc", NONE, NONE);
        judged(x, "/a", 0, 4);
        judged(x, "sab/b/b", 4, 4);
        judged(x, "sabbc/a/c", 6, 4);
        judged(x, "AA", 1, 5);
        judged(x, "sA", 1, 6);
        judged(x, "saA/aA", 4, 6);
        judged(x, "saAsA", 4, 5);
        // the least reason: he does not sit, though the part is done, though what is under it is not
        judged(x, "sasa", 3, 1);
        judged(x, "c", 0, 1);
        // in force, though the power is not there
        judged(x, "AsA", 2, 5);
        // done, though what is under it is done too
        judged(x, "sabbb", 4, 2);
        due("judge(2)", x.judge(2), OUTSIDE);
        due("judge(-1)", x.judge(-1), OUTSIDE);
        write(x, "sx");
        due("judge(0)", x.judge(0), NO);
        due("judge(1)", x.judge(1), NO);
        due("judge(2)", x.judge(2), OUTSIDE);
        states(x, 0, 0, 0, 0);
        due("told(0)", x.told(0), 2);
    }

    private static void done() {
        promise = "8 done";
        PortraitRule x = chain();
        due("done()", x.done(), 0);
        reign(x, "sabbABC", NO);
        states(x, 0, 0, 0, 0);
        due("told(0)", x.told(0), 7);
        reign(x, "sa/", NO);
        due("told(0)", x.told(0), 3);
        reign(x, "sabb/dAB", NO);
        reign(x, "sabbcABC/b", 9);
        states(x, 1, 1, 1, 1);
        due("told(0)", x.told(0), 0);
        due("fault()", x.fault(), NONE);
        // what was in force without its power is repealed behind any painting over while he sits
        PortraitRule y = new PortraitRule();
        reign(y, "ABCsab", 6);
        due("state(2)", y.state(2), 7);
        reign(y, "/b", 1);
        due("state(2)", y.state(2), 1);
        // but not while he stands, and not by rising and sitting
        PortraitRule z = new PortraitRule();
        reign(z, "saAs/as", 6);
        states(z, 0, 0, 1, 1);
    }

    private static void state() {
        promise = "9 state";
        PortraitRule x = chain();
        reign(x, "sabHs", NO);
        reign(x, "sabsH", 5);
        states(x, 1, 1, 128, 0);
        due("state(4)", x.state(4), OUTSIDE);
        due("state(-1)", x.state(-1), OUTSIDE);
        reign(x, "sb", 2);
        states(x, 3, 3, 128, 1);
    }

    private static void behinds(PortraitRule x, String text, int... want) {
        write(x, text);
        for (int what = 0; what < 6; what++) {
            due("behind(" + what + ") of " + text, x.behind(what), want[what]);
        }
    }

    private static void behind() {
        promise = "10 behind";
        PortraitRule x = chain();
        behinds(x, "", 0, 0, 0, 0, 0, 0);
        behinds(x, "sabbcABC/b", 1, 1, 1, 1, 4, 2);
        behinds(x, "sabbcABC/abb", NO, NO, NO, NO, NO, NO);
        behinds(x, "sabbcABC/aabb", 3, 3, 0, 1, 7, 3);
        behinds(x, "s/", NO, NO, NO, NO, NO, NO);
        due("behind(6)", x.behind(6), OUTSIDE);
        due("behind(-1)", x.behind(-1), OUTSIDE);
        states(x, 0, 0, 0, 0);
        reign(x, "saAs", 4);
        // hours and repeals are of this reign alone
        behinds(x, "s/a", 0, 0, 0, 1, 0, 1);
        behinds(x, "", 1, 1, 1, 0, 0, 0);
    }

    private static void can() {
        promise = "11 can";
        PortraitRule x = new PortraitRule();
        reign(x, "AH", 2);
        due("can()", x.can(), 126);
        reign(x, "sb", 2);
        due("can()", x.can(), 2);
        x.needs(4, 0);
        x.needs(5, 6);
        due("can()", x.can(), 18);
        reign(x, "cF", 2);
        due("can()", x.can(), 2 + 4 + 16);
    }

    private static void lacks() {
        promise = "12 lacks";
        PortraitRule x = new PortraitRule();
        x.part(1, 2, 1, 6);
        x.part(3, 1, 0, 4);
        // c, or d, alone: one hour each; the least as bits
        due("lacks(2, 0)", x.lacks(2, 0), 1);
        due("lacks(2, 1)", x.lacks(2, 1), 4);
        due("lacks(1, 0)", x.lacks(1, 0), 3);
        due("lacks(1, 1)", x.lacks(1, 1), 3);
        due("lacks(3, 0)", x.lacks(3, 0), NONE);
        due("lacks(3, 1)", x.lacks(3, 1), NONE);
        x.needs(6, 0);
        due("lacks(6, 0)", x.lacks(6, 0), 0);
        due("lacks(6, 1)", x.lacks(6, 1), 0);
        reign(x, "sabs", 4);
        // what is done is not told, an hour that is painted is not counted
        due("lacks(1, 0)", x.lacks(1, 0), 1);
        due("lacks(1, 1)", x.lacks(1, 1), 2);
        due("lacks(2, 0)", x.lacks(2, 0), 1);
        due("lacks(2, 1)", x.lacks(2, 1), 2);
        due("lacks(0, 0)", x.lacks(0, 0), 0);
        due("lacks(0, 1)", x.lacks(0, 1), 0);
        due("lacks(8, 0)", x.lacks(8, 0), UNKNOWN);
        due("lacks(-1, 5)", x.lacks(-1, 5), UNKNOWN);
        due("lacks(0, 2)", x.lacks(0, 2), OUTSIDE);
        due("lacks(0, -1)", x.lacks(0, -1), OUTSIDE);
    }

    private static void plans(PortraitRule x, int wanted, int not, int hours, int set) {
        due("plan(" + wanted + ", " + not + ", 0)", x.plan(wanted, not, 0), hours);
        due("plan(" + wanted + ", " + not + ", 1)", x.plan(wanted, not, 1), set);
    }

    private static void plan() {
        promise = "13 plan";
        PortraitRule x = new PortraitRule();
        x.part(1, 2, 1, 6);
        plans(x, 0, 0, 0, 0);
        plans(x, 4, 0, 1, 4);
        plans(x, 6, 0, 3, 3);
        plans(x, 4, 2, 1, 4);
        plans(x, 2, 4, NONE, NONE);
        plans(x, 2, 1, NONE, NONE);
        plans(x, 0, 255, 0, 0);
        plans(x, 255, 0, 8, 251);
        x.needs(7, 0);
        plans(x, 0, 128, NONE, NONE);
        plans(x, 128, 127, 0, 0);
        reign(x, "sab", 3);
        // the set to be done besides, as the terms say, without what is done
        plans(x, 2, 0, 1, 2);
        plans(x, 2, 8, 1, 2);
        plans(x, 8, 2, 1, 8);
        plans(x, 0, 1, NONE, NONE);
        int[][] no = {{256, 0, 0}, {-1, 0, 0}, {0, 256, 0}, {0, -1, 0}, {1, 1, 0}, {3, 6, 1}, {0, 0, 2}, {0, 0, -1}, {LEAST, 0, 0}};
        for (int[] row : no) {
            due("plan(" + row[0] + ", " + row[1] + ", " + row[2] + ")", x.plan(row[0], row[1], row[2]), OUTSIDE);
        }
    }

    private static void orders() {
        promise = "14 orders";
        PortraitRule x = new PortraitRule();
        due("orders()", x.orders(), 40320);
        x.part(1, 9, 1, 0);
        due("orders()", x.orders(), 20160);
        for (int part = 1; part < 8; part++) {
            x.part(part, 1, 1 << (part - 1), 0);
        }
        due("orders()", x.orders(), 1);
        x.part(7, 1, 0, 0);
        due("orders()", x.orders(), 8);
        reign(x, "sabcdef", 7);
        due("orders()", x.orders(), 2);
        reign(x, "gh", 2);
        due("orders()", x.orders(), 1);
    }

    private static void bars(PortraitRule x, int act, int count, int set) {
        due("bar(" + act + ", 0)", x.bar(act, 0), count);
        due("bar(" + act + ", 1)", x.bar(act, 1), set);
    }

    private static void bar() {
        promise = "15 bar";
        PortraitRule x = chain();
        x.part(3, 1, 0, 6);
        bars(x, 0, NONE, NONE);
        reign(x, "sabbcd", 6);
        bars(x, 0, 1, 1);
        bars(x, 1, 2, 9);
        bars(x, 2, 2, 9);
        x.needs(5, 6);
        bars(x, 5, 2, 9);
        x.needs(6, 7);
        bars(x, 6, 1, 1);
        x.needs(7, 0);
        bars(x, 7, NONE, NONE);
        bars(x, 4, NONE, NONE);
        // by what is gone by it: b and what stands on it, not a
        x.needs(4, 4);
        x.part(3, 1, 0, 1);
        reign(x, "d", 1);
        bars(x, 4, 1, 1);
        bars(x, 0, 2, 9);
        due("bar(8, 0)", x.bar(8, 0), UNKNOWN);
        due("bar(-1, 2)", x.bar(-1, 2), UNKNOWN);
        due("bar(0, 2)", x.bar(0, 2), OUTSIDE);
        due("bar(0, -1)", x.bar(0, -1), OUTSIDE);
        states(x, 15, 7, 0, 1);
    }

    private static void falls() {
        promise = "16 falls";
        PortraitRule x = chain();
        x.part(3, 1, 0, 5);
        due("falls(0, 0)", x.falls(0, 0), 0);
        due("falls(0, 1)", x.falls(0, 1), 0);
        reign(x, "sabd", 4);
        due("falls(0, 0)", x.falls(0, 0), 3);
        due("falls(0, 1)", x.falls(0, 1), 0);
        due("falls(3, 0)", x.falls(3, 0), 8);
        due("falls(3, 1)", x.falls(3, 1), 4);
        reign(x, "bc", 2);
        due("falls(0, 0)", x.falls(0, 0), 7);
        due("falls(0, 1)", x.falls(0, 1), 2);
        due("falls(1, 0)", x.falls(1, 0), 6);
        due("falls(2, 0)", x.falls(2, 0), 4);
        due("falls(2, 1)", x.falls(2, 1), 0);
        due("falls(4, 0)", x.falls(4, 0), 0);
        due("falls(8, 0)", x.falls(8, 0), UNKNOWN);
        due("falls(-1, 2)", x.falls(-1, 2), UNKNOWN);
        due("falls(0, 2)", x.falls(0, 2), OUTSIDE);
        due("falls(0, -1)", x.falls(0, -1), OUTSIDE);
        states(x, 15, 7, 0, 1);
    }

    private static void alone() {
        promise = "17 alone";
        PortraitRule x = new PortraitRule();
        x.part(6, 1, 63, 255);
        x.part(3, 1, 0, 3);
        x.needs(5, 3);
        x.needs(6, 0);
        due("alone(0)", x.alone(0), 1 + 8 + 64);
        due("alone(5)", x.alone(5), 8 + 64);
        due("alone(6)", x.alone(6), 255);
        x.part(6, 1, 0, 0);
        x.part(3, 1, 0, 0);
        due("alone(5)", x.alone(5), 0);
        due("alone(8)", x.alone(8), UNKNOWN);
        due("alone(-1)", x.alone(-1), UNKNOWN);
    }

    private static void guards(PortraitRule x, int act, int count, int set) {
        due("guard(" + act + ", 0)", x.guard(act, 0), count);
        due("guard(" + act + ", 1)", x.guard(act, 1), set);
    }

    private static void guard() {
        promise = "18 guard";
        PortraitRule x = new PortraitRule();
        guards(x, 0, 1, 2);
        guards(x, 7, 1, 1);
        x.needs(1, 0);
        guards(x, 1, 2, 3);
        x.needs(2, 3);
        guards(x, 2, 0, 0);
        x.part(0, 1, 0, 127);
        guards(x, 0, 1, 128);
        x.part(7, 1, 0, 255 - 64);
        guards(x, 0, 2, 192);
        // the least of as few: either 64 with 128, or none
        x.needs(3, 64);
        guards(x, 3, 1, 128);
        x.part(5, 1, 0, 255);
        guards(x, 3, NONE, NONE);
        due("guard(8, 0)", x.guard(8, 0), UNKNOWN);
        due("guard(-1, 2)", x.guard(-1, 2), UNKNOWN);
        due("guard(0, 2)", x.guard(0, 2), OUTSIDE);
        due("guard(0, -1)", x.guard(0, -1), OUTSIDE);
    }

    private static void seenAndForget() {
        promise = "19 seen, 20 forget";
        PortraitRule x = new PortraitRule();
        due("forget()", x.forget(), 0);
        due("seen(61, 8, true)", x.seen(61, 8, true), UNKNOWN);
        due("seen(0, -1, true)", x.seen(0, -1, true), UNKNOWN);
        due("seen(61, 0, true)", x.seen(61, 0, true), OUTSIDE);
        due("seen(-1, 0, true)", x.seen(-1, 0, true), OUTSIDE);
        for (int i = 1; i <= 8; i++) {
            due("seen(60, 7, true)", x.seen(i == 1 ? 0 : 60, 7, true), i);
        }
        due("seen(60, 7, true)", x.seen(60, 7, true), FULL);
        due("seen(61, 7, true)", x.seen(61, 7, true), OUTSIDE);
        due("seen(61, 8, true)", x.seen(61, 8, true), UNKNOWN);
        due("told(1)", x.told(1), 8);
        due("forget()", x.forget(), 8);
        due("told(1)", x.told(1), 0);
        // what was forgotten does not come back with new sights
        due("seen(3, 0, false)", x.seen(3, 0, false), 1);
        due("hidden(0)", x.hidden(0), 128);
        due("hidden(2)", x.hidden(2), 254);
    }

    private static void hiddens(PortraitRule x, int count, int all, int some) {
        due("hidden(0)", x.hidden(0), count);
        due("hidden(1)", x.hidden(1), all);
        due("hidden(2)", x.hidden(2), some);
    }

    private static void hidden() {
        promise = "21 hidden";
        PortraitRule x = chain();
        hiddens(x, 128, 0, 255);
        // c could: a and b are done too
        x.seen(10, 2, true);
        hiddens(x, 32, 7, 255);
        // an earlier one that could not does not bind the later one, an earlier one that could does
        x.seen(5, 3, false);
        hiddens(x, 32, 7, 255);
        x.seen(5, 4, true);
        hiddens(x, 16, 23, 255);
        // a later one that could not binds the earlier ones
        x.seen(20, 7, false);
        hiddens(x, 8, 23, 127);
        x.seen(20, 7, true);
        hiddens(x, 0, 0, 0);
        due("forget()", x.forget(), 5);
        // both at one step are of one picture
        x.seen(4, 0, true);
        x.seen(4, 1, false);
        hiddens(x, 32, 1, 249);
        // told out of order
        x.seen(9, 1, true);
        x.seen(2, 3, true);
        hiddens(x, 32, 11, 255);
        x.forget();
        x.needs(0, 0);
        x.seen(0, 0, false);
        hiddens(x, 0, 0, 0);
        due("hidden(3)", x.hidden(3), OUTSIDE);
        due("hidden(-1)", x.hidden(-1), OUTSIDE);
        // the picture that is known does not bind the other one
        PortraitRule y = new PortraitRule();
        reign(y, "sab", 3);
        hiddens(y, 256, 0, 255);
        y.seen(0, 0, false);
        hiddens(y, 128, 0, 254);
    }

    private static void tries() {
        promise = "22 tries";
        PortraitRule x = chain();
        // a is done in 2 of 3 parts of the chain's pictures: 96 of 128; d in 64
        due("tries(0)", x.tries(0), 1);
        due("tries(1)", x.tries(1), 64);
        x.seen(3, 1, true);
        due("tries(0)", x.tries(0), 2);
        due("tries(1)", x.tries(1), 32);
        x.seen(3, 1, false);
        due("tries(0)", x.tries(0), NONE);
        due("tries(1)", x.tries(1), NONE);
        due("tries(2)", x.tries(2), OUTSIDE);
        due("tries(-1)", x.tries(-1), OUTSIDE);
        PortraitRule y = new PortraitRule();
        for (int act = 0; act < 8; act++) {
            y.needs(act, 0);
        }
        due("tries(0)", y.tries(0), 0);
        due("tries(1)", y.tries(1), 256);
        y.needs(6, 3);
        due("tries(0)", y.tries(0), 6);
        due("tries(1)", y.tries(1), 192);
    }

    private static void colonies() {
        promise = "23 send, 24 makes, 25 quarrel, 26 sent";
        PortraitRule x = chain();
        due("sent()", x.sent(), 0);
        due("send(0)", x.send(0), 0);
        reign(x, "sabb", 4);
        due("sent()", x.sent(), 0);
        due("send(3)", x.send(3), 3);
        due("told(5)", x.told(5), 3);
        due("sent()", x.sent(), 3);
        due("makes(3)", x.makes(3), 3);
        due("makes(0)", x.makes(0), 0);
        x.needs(7, 3);
        x.needs(6, 0);
        due("makes(3)", x.makes(3), 3 + 64 + 128);
        due("makes(0)", x.makes(0), 64);
        due("quarrel(0, 3)", x.quarrel(0, 3), 3 + 128);
        due("quarrel(3, 0)", x.quarrel(3, 0), 3 + 128);
        due("quarrel(0, 1)", x.quarrel(0, 1), 0);
        // a copy is late: it stays as the picture was
        reign(x, "/bd", 2);
        due("told(5)", x.told(5), 3);
        due("sent()", x.sent(), 4);
        due("send(0)", x.send(0), 9);
        due("quarrel(3, 0)", x.quarrel(3, 0), 2 + 8 + 128);
        due("sent()", x.sent(), 3);
        for (int colony = 1; colony < 4; colony++) {
            due("send(" + colony + ")", x.send(colony), 9);
        }
        due("sent()", x.sent(), 0);
        due("send(4)", x.send(4), UNKNOWN);
        due("send(-1)", x.send(-1), UNKNOWN);
        due("makes(4)", x.makes(4), UNKNOWN);
        due("makes(-1)", x.makes(-1), UNKNOWN);
        due("quarrel(4, 0)", x.quarrel(4, 0), UNKNOWN);
        due("quarrel(0, 4)", x.quarrel(0, 4), UNKNOWN);
        due("quarrel(-1, 0)", x.quarrel(-1, 0), UNKNOWN);
        due("quarrel(0, -1)", x.quarrel(0, -1), UNKNOWN);
        due("quarrel(2, 2)", x.quarrel(2, 2), UNKNOWN);
    }

    private static void wins(PortraitRule x, int act, int who, int part) {
        due("turns(" + act + ", 0)", x.turns(act, 0), who);
        due("turns(" + act + ", 1)", x.turns(act, 1), part);
    }

    private static void turns() {
        promise = "27 turns";
        PortraitRule x = new PortraitRule();
        wins(x, 7, 0, 7);
        // two parts are wanted: who finishes the first of them loses; six others, so who begins does it
        x.needs(0, 3);
        wins(x, 0, 1, NONE);
        reign(x, "sh", 2);
        // five others: who begins takes one of them, the least, and so on
        wins(x, 0, 0, 2);
        wins(x, 7, NONE, NONE);
        x.needs(6, 0);
        wins(x, 6, NONE, NONE);
        // nobody gives power 6
        x.part(6, 1, 0, 0);
        x.needs(6, 64);
        wins(x, 6, NONE, NONE);
        // a chain of eight: each turn has one part
        PortraitRule y = new PortraitRule();
        for (int part = 1; part < 8; part++) {
            y.part(part, 9, 1 << (part - 1), 1 << part);
        }
        wins(y, 0, 0, 0);
        wins(y, 1, 1, NONE);
        wins(y, 6, 0, 0);
        wins(y, 7, 1, NONE);
        reign(y, "sa", 2);
        wins(y, 7, 0, 1);
        due("turns(8, 0)", y.turns(8, 0), UNKNOWN);
        due("turns(-1, 2)", y.turns(-1, 2), UNKNOWN);
        due("turns(0, 2)", y.turns(0, 2), OUTSIDE);
        due("turns(0, -1)", y.turns(0, -1), OUTSIDE);
    }

    private static void fevers(PortraitRule x, int act, int m, int t, long... want) {
        for (int i = 0; i < 4; i++) {
            due("fever(" + act + ", " + m + ", " + t + ", " + i / 2 + ", " + i % 2 + ")", x.fever(act, m, t, i / 2, i % 2), want[i]);
        }
    }

    private static void fever() {
        promise = "28 fever";
        PortraitRule x = chain();
        fevers(x, 0, 0, 5, 0, 1, 0, 1);
        fevers(x, 0, 1, 3, 7, 10, 7, 10);
        fevers(x, 1, 3, 5, 1, 8, 3, 2);
        fevers(x, 1, 3, 0, 1, 1, 3, 1);
        fevers(x, 1, 8, 10, 0, 1, 0, 1);
        // 8 hours, 9 wanted in all: each that is not lost is painted
        fevers(x, 7, 8, 0, 0, 1, 8, 1);
        reign(x, "sabbcdefg", 9);
        // one hour is left to paint, two are there
        fevers(x, 7, 2, 5, 3, 4, 3, 4);
        fevers(x, 0, 2, 5, 1, 1, 3, 4);
        x.needs(0, 0);
        fevers(x, 0, 0, 0, 1, 1, 0, 1);
        due("state(0)", x.state(0), 127);
        long lost = PortraitRule.LOST;
        due("fever(8, 9, 0, 0, 0)", x.fever(8, 9, 0, 0, 0), lost + UNKNOWN);
        due("fever(-1, 0, 0, 0, 0)", x.fever(-1, 0, 0, 0, 0), lost + UNKNOWN);
        int[][] no = {{9, 0, 0, 0}, {-1, 0, 0, 0}, {0, 11, 0, 0}, {0, -1, 0, 0}, {0, 0, 2, 0}, {0, 0, -1, 0}, {0, 0, 0, 2}, {0, 0, 0, -1}};
        for (int[] row : no) {
            due("fever(0, " + row[0] + ", " + row[1] + ", " + row[2] + ", " + row[3] + ")",
                x.fever(0, row[0], row[1], row[2], row[3]), lost + OUTSIDE);
        }
    }

    private static void years(PortraitRule x, int seed, int m, int hours, int made, int repealed) {
        due("year(" + seed + ", " + m + ", 0)", x.year(seed, m, 0), hours);
        due("year(" + seed + ", " + m + ", 1)", x.year(seed, m, 1), made);
        due("year(" + seed + ", " + m + ", 2)", x.year(seed, m, 2), repealed);
    }

    private static void year() {
        promise = "29 year";
        PortraitRule x = new PortraitRule();
        // 0: 74 (ACT 1), 5624 (s), 28652 (PART 5), 51790 (PART 1), 17641 (/ PART 5), 12409 (/ PART 7), 13231 (PART 5)
        years(x, 0, 1, 0, 1, 0);
        years(x, 0, 2, 0, 1, 0);
        years(x, 0, 3, 1, 1, 0);
        years(x, 0, 4, 2, 1, 0);
        // ACT 1 hangs on PART 1 alone, till it is told to hang on PART 5
        years(x, 0, 5, 2, 1, 0);
        x.needs(1, 32);
        years(x, 0, 5, 2, 1, 1);
        years(x, 0, 6, 2, 1, 1);
        years(x, 0, 7, 3, 1, 1);
        states(x, 0, 0, 0, 0);
        reign(x, "B", 1);
        // what was made and painted ahead of the year does not count in it
        years(x, 0, 2, 0, 0, 0);
        years(x, 0, 5, 2, 0, 1);
        reign(x, "sbf", 3);
        // he rises in it now: nothing is painted, nothing is repealed
        years(x, 0, 6, 0, 0, 0);
        due("state(2)", x.state(2), 2);
        due("year(9999, 99, 0)", x.year(9999, 99, 0) >= 0 ? 0 : -1, 0);
        int[][] no = {{-1, 1, 0}, {10000, 1, 0}, {0, 0, 0}, {0, 100, 0}, {0, -1, 0}, {0, 1, 3}, {0, 1, -1}, {MOST, MOST, MOST}};
        for (int[] row : no) {
            due("year(" + row[0] + ", " + row[1] + ", " + row[2] + ")", x.year(row[0], row[1], row[2]), OUTSIDE);
        }
    }

    private static void images() {
        promise = "30 image, 31 restore";
        PortraitRule x = chain();
        due("image(2)", x.image(2), OUTSIDE);
        due("image(-1)", x.image(-1), OUTSIDE);
        due("restore(2)", x.restore(2), OUTSIDE);
        due("restore(-1)", x.restore(-1), OUTSIDE);
        reign(x, "sabA", 4);
        x.seen(3, 2, false);
        x.send(2);
        due("image(1)", x.image(1), 1);
        due("restore(0)", x.restore(0), STATE);
        due("image(0)", x.image(0), 1);
        x.part(0, 4, 0, 7);
        x.part(5, 2, 31, 9);
        x.needs(0, 9);
        x.seen(1, 0, true);
        x.send(1);
        x.send(2);
        write(x, "sH");
        due("done()", x.done(), 2);
        due("image(0)", x.image(0), 1);
        write(x, "abc");
        due("restore(1)", x.restore(1), 1);
        states(x, 1, 1, 1, 1);
        int[][] want = {{0, 3}, {1, 1}, {2, 0}, {3, 0}, {4, 1}, {5, 0}, {10, 1}, {12, 1}, {13, 1}, {23, 1}, {60, 1}, {61, 0}, {62, 32}, {100, 1}};
        for (int[] row : want) {
            due("told(" + row[0] + ")", x.told(row[0]), row[1]);
        }
        // the sight is as it was: c was not, so the pictures are those without it
        due("hidden(2)", x.hidden(2), 251);
        due("restore(0)", x.restore(0), 1);
        states(x, 0, 0, 128, 0);
        int[][] later = {{0, 3}, {1, 2}, {3, 0}, {4, 0}, {10, 4}, {12, 7}, {60, 2}, {61, 31}, {62, 9}, {100, 9}};
        for (int[] row : later) {
            due("told(" + row[0] + ")", x.told(row[0]), row[1]);
        }
        // an image stays as it was kept, whatever comes behind it
        due("restore(1)", x.restore(1), 1);
        reign(x, "bc", 2);
        x.forget();
        due("restore(1)", x.restore(1), 1);
        states(x, 1, 1, 1, 1);
        due("told(1)", x.told(1), 1);
    }

    private static void told() {
        promise = "32 told";
        PortraitRule x = new PortraitRule();
        x.part(7, 9, 127, 200);
        x.part(0, 3, 0, 100);
        x.needs(7, 77);
        reign(x, "saa", 3);
        write(x, "??");
        due("told(0)", x.told(0), 2);
        due("told(80)", x.told(80), 9);
        due("told(81)", x.told(81), 127);
        due("told(82)", x.told(82), 200);
        due("told(83)", x.told(83), 0);
        due("told(10)", x.told(10), 3);
        due("told(12)", x.told(12), 100);
        due("told(13)", x.told(13), 2);
        due("told(107)", x.told(107), 77);
        for (int what : new int[] {-1, 6, 7, 8, 9, 14, 19, 24, 84, 89, 90, 93, 99, 108, 110, 1000, LEAST, MOST}) {
            due("told(" + what + ")", x.told(what), OUTSIDE);
        }
    }
}
