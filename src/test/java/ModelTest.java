import java.math.BigInteger;
import java.util.ArrayList;
import java.util.HashMap;
import java.util.List;
import java.util.Map;
import java.util.Random;
import java.util.TreeSet;

/** Drawn runs of calls, each answer compared with a slow model that goes by the document's words. */
public final class ModelTest {
    private static final int NONE = -6, UNKNOWN = -1, OUTSIDE = -2, STATE = -3, FULL = -4, NO = -5;
    private static final int RUNS = 2500;
    /** Under the 512 calls that are promised, with room for the last reign and for the look at all. */
    private static final int MOST_CALLS = 330;
    private static int wrong = 0;

    /** What was seen behind so many steps. */
    private record Sight(int steps, int act, boolean could) { }

    /** All but the pad. */
    private static final class Model {
        int[] hours = {1, 1, 1, 1, 1, 1, 1, 1};
        int[] under = new int[8];
        int[] gives = {1, 2, 4, 8, 16, 32, 64, 128};
        int[] painted = new int[8];
        int[] needs = {1, 2, 4, 8, 16, 32, 64, 128};
        boolean[] force = new boolean[8];
        boolean sits;
        List<Sight> sights = new ArrayList<>();
        int[] colonies = new int[4];
        int spent;
        int made;
        int repealed;

        Model copy() {
            Model to = new Model();
            to.hours = hours.clone();
            to.under = under.clone();
            to.gives = gives.clone();
            to.painted = painted.clone();
            to.needs = needs.clone();
            to.force = force.clone();
            to.sits = sits;
            to.sights = new ArrayList<>(sights);
            to.colonies = colonies.clone();
            return to;
        }

        boolean isDone(int part) {
            return painted[part] >= hours[part];
        }

        int done() {
            int set = 0;
            for (int part = 7; part >= 0; part--) {
                set = 2 * set + (isDone(part) ? 1 : 0);
            }
            return set;
        }

        int powers(int parts) {
            int all = 0;
            for (int part : members(parts)) {
                all |= gives[part];
            }
            return all;
        }

        boolean holds(int powers, int act) {
            return (powers | needs[act]) == powers;
        }

        int forceBits() {
            int bits = 0;
            for (int act = 0; act < 8; act++) {
                bits += force[act] ? 1 << act : 0;
            }
            return bits;
        }

        /** Nothing of it is painted, nor of what has it under: level by level, not by one pass. */
        void over(int part) {
            painted[part] = 0;
            for (int other = 0; other < 8; other++) {
                if ((under[other] >> part & 1) == 1) {
                    over(other);
                }
            }
        }

        int reason(String step) {
            char last = step.charAt(step.length() - 1);
            int part = last - 'a';
            int act = last - 'A';
            if (step.charAt(0) == '/') {
                return painted[part] == 0 ? 4 : 0;
            }
            if (step.equals("s")) {
                return 0;
            }
            if (part >= 0 && part < 8) {
                return !sits ? 1 : isDone(part) ? 2 : (under[part] & ~done()) != 0 ? 3 : 0;
            }
            return force[act] ? 5 : sits && !holds(powers(done()), act) ? 6 : 0;
        }

        void take(String step) {
            char last = step.charAt(step.length() - 1);
            if (step.charAt(0) == '/') {
                over(last - 'a');
                for (int act = 0; act < 8; act++) {
                    if (sits && force[act] && !holds(powers(done()), act)) {
                        force[act] = false;
                        repealed++;
                    }
                }
            } else if (step.equals("s")) {
                sits = !sits;
            } else if (last >= 'a') {
                painted[last - 'a']++;
                spent++;
            } else {
                force[last - 'A'] = true;
                made++;
            }
        }

        boolean closed(int parts) {
            for (int part : members(parts)) {
                for (int below : members(under[part])) {
                    if ((parts >> below & 1) == 0) {
                        return false;
                    }
                }
            }
            return true;
        }

        int[] plan(int wanted, int not) {
            int now = done();
            int[] best = null;
            for (int more = 255; more >= 0; more--) {
                int cost = 0;
                boolean fits = (more & now) == 0 && closed(more | now);
                for (int part : members(more)) {
                    cost += hours[part] - painted[part];
                }
                for (int act = 0; act < 8; act++) {
                    boolean could = holds(powers(more | now), act);
                    fits &= (wanted >> act & 1) == 0 || could;
                    fits &= (not >> act & 1) == 0 || !could;
                }
                if (fits && (best == null || cost <= best[0])) {
                    best = new int[] {cost, more};
                }
            }
            return best == null ? new int[] {NONE, NONE} : best;
        }

        int orders(int finished) {
            int ways = finished == 255 ? 1 : 0;
            for (int part = 0; part < 8; part++) {
                if ((finished >> part & 1) == 0 && (under[part] | finished) == finished) {
                    ways += orders(finished | 1 << part);
                }
            }
            return ways;
        }

        int[] bar(int act) {
            if (needs[act] == 0 || !holds(powers(done()), act)) {
                return new int[] {NONE, NONE};
            }
            int[] best = null;
            for (int set = 1; set < 256; set++) {
                Model other = copy();
                for (int part : members(set)) {
                    other.over(part);
                }
                int count = members(set).size();
                if (!other.holds(other.powers(other.done()), act) && (best == null || count < best[0])) {
                    best = new int[] {count, set};
                }
            }
            return best;
        }

        int[] falls(int part) {
            Model other = copy();
            other.over(part);
            int parts = 0;
            for (int p = 0; p < 8; p++) {
                parts += painted[p] > 0 && other.painted[p] == 0 ? 1 << p : 0;
            }
            return new int[] {parts, powers(done()) & ~other.powers(other.done())};
        }

        int alone(int powers) {
            int parts = 0;
            for (int part = 0; part < 8; part++) {
                parts += (gives[part] | powers) == gives[part] ? 1 << part : 0;
            }
            return parts;
        }

        int[] guard(int act) {
            int[] best = null;
            for (int more = 0; more < 256; more++) {
                boolean isMore = (more & needs[act]) == 0;
                int count = members(more).size();
                if (isMore && alone(more | needs[act]) == 0 && (best == null || count < best[0])) {
                    best = new int[] {count, more};
                }
            }
            return best == null ? new int[] {NONE, NONE} : best;
        }

        boolean possible(List<Integer> steps, int index, int picture, Map<Integer, Boolean> known) {
            if (index < 0) {
                return true;
            }
            Boolean told = known.get(index * 256 + picture);
            if (told != null) {
                return told;
            }
            boolean fits = closed(picture);
            for (Sight sight : sights) {
                if (sight.steps() == steps.get(index)) {
                    fits &= holds(powers(picture), sight.act()) == sight.could();
                }
            }
            boolean before = false;
            for (int less = 0; fits && !before && less <= picture; less++) {
                before = (less & ~picture) == 0 && possible(steps, index - 1, less, known);
            }
            known.put(index * 256 + picture, fits && before);
            return fits && before;
        }

        List<Integer> pictures() {
            TreeSet<Integer> at = new TreeSet<>();
            for (Sight sight : sights) {
                at.add(sight.steps());
            }
            List<Integer> steps = new ArrayList<>(at);
            List<Integer> found = new ArrayList<>();
            Map<Integer, Boolean> known = new HashMap<>();
            for (int picture = 0; picture < 256; picture++) {
                if (closed(picture) && possible(steps, steps.size() - 1, picture, known)) {
                    found.add(picture);
                }
            }
            return found;
        }

        int[] hidden() {
            List<Integer> found = pictures();
            int all = found.isEmpty() ? 0 : 255;
            int some = 0;
            for (int picture : found) {
                all &= picture;
                some |= picture;
            }
            return new int[] {found.size(), all, some};
        }

        int[] tries() {
            List<Integer> found = pictures();
            int[] best = {NONE, NONE};
            for (int act = 7; act >= 0 && !found.isEmpty(); act--) {
                int yes = 0;
                for (int picture : found) {
                    yes += holds(powers(picture), act) ? 1 : 0;
                }
                int most = Math.max(yes, found.size() - yes);
                if (best[0] == NONE || most <= best[1]) {
                    best = new int[] {act, most};
                }
            }
            return best;
        }

        int makes(int powers) {
            int acts = 0;
            for (int act = 0; act < 8; act++) {
                acts += holds(powers, act) ? 1 << act : 0;
            }
            return acts;
        }

        int sent() {
            int fewest = 9;
            for (int set = 0; set < 16; set++) {
                TreeSet<Integer> kinds = new TreeSet<>();
                for (int colony = 0; colony < 4; colony++) {
                    kinds.add((set >> colony & 1) == 1 ? powers(done()) : colonies[colony]);
                }
                if (kinds.size() == 1) {
                    fewest = Math.min(fewest, members(set).size());
                }
            }
            return fewest;
        }

        /** The parts by which whose turn it is wins. */
        List<Integer> winners(int finished, int act, Map<Integer, List<Integer>> known) {
            if (known.containsKey(finished)) {
                return known.get(finished);
            }
            List<Integer> found = new ArrayList<>();
            for (int part = 0; part < 8; part++) {
                int next = finished | 1 << part;
                if (next == finished || (under[part] | finished) != finished) {
                    continue;
                }
                if (holds(powers(next), act) || winners(next, act, known).isEmpty()) {
                    found.add(part);
                }
            }
            known.put(finished, found);
            return found;
        }

        int[] turns(int act) {
            if (holds(powers(done()), act) || !holds(powers(255), act)) {
                return new int[] {NONE, NONE};
            }
            List<Integer> found = winners(done(), act, new HashMap<>());
            return found.isEmpty() ? new int[] {1, NONE} : new int[] {0, found.get(0)};
        }

        /** Every way in which the hours can go, one by one. */
        long[] fever(int act, int m, int t) {
            BigInteger chance = BigInteger.ZERO;
            BigInteger mean = BigInteger.ZERO;
            for (int lost = 0; lost < 1 << m; lost++) {
                Model other = copy();
                other.sits = true;
                BigInteger weight = BigInteger.ONE;
                for (int hour = 0; hour < m; hour++) {
                    boolean isLost = (lost >> hour & 1) == 1;
                    weight = weight.multiply(BigInteger.valueOf(isLost ? t : 10 - t));
                    for (char part = 'a'; !isLost && part <= 'h'; part++) {
                        if (other.reason("" + part) == 0) {
                            other.take("" + part);
                            break;
                        }
                    }
                }
                if (other.holds(other.powers(other.done()), act)) {
                    chance = chance.add(weight);
                }
                mean = mean.add(weight.multiply(BigInteger.valueOf(other.spent)));
            }
            BigInteger whole = BigInteger.TEN.pow(m);
            BigInteger one = chance.gcd(whole);
            BigInteger two = mean.gcd(whole);
            return new long[] {chance.divide(one).longValue(), whole.divide(one).longValue(),
                mean.divide(two).longValue(), whole.divide(two).longValue()};
        }

        int[] year(int seed, int m) {
            Model other = copy();
            long x = seed;
            for (int i = 0; i < m; i++) {
                x = (75 * x + 74) % 65537;
                int k = (int) (x / 8 % 8);
                String part = "" + (char) ('a' + k);
                String step = switch ((int) (x % 8)) {
                    case 0 -> "s";
                    case 1 -> "/" + part;
                    case 2, 3 -> "" + (char) ('A' + k);
                    default -> part;
                };
                if (other.reason(step) == 0) {
                    other.take(step);
                }
            }
            return new int[] {other.spent, other.made, other.repealed};
        }

        int state(int what) {
            return new int[] {done(), powers(done()), forceBits(), sits ? 1 : 0}[what];
        }
    }

    private static List<Integer> members(int set) {
        List<Integer> found = new ArrayList<>();
        for (int i = 0; i < 8; i++) {
            if ((set >> i & 1) == 1) {
                found.add(i);
            }
        }
        return found;
    }

    /** One run: the object, the model, the pad, the images. */
    private final PortraitRule x = new PortraitRule();
    private final Random draw;
    private final StringBuilder log = new StringBuilder();
    private Model now = new Model();
    private final Model[] images = new Model[2];
    private String pad = "";
    private int calls = 0;

    private ModelTest(long seed) {
        draw = new Random(seed);
    }

    private void due(String call, long got, long want) {
        calls++;
        log.append(call).append(" = ").append(got).append('\n');
        if (got != want) {
            wrong++;
            System.out.println(log);
            System.out.println("due is " + want);
            log.setLength(0);
        }
    }

    /** Mostly 0 to below, sometimes just outside of it, seldom far outside. */
    private int near(int below) {
        int kind = draw.nextInt(60);
        if (kind == 0) {
            return -1;
        }
        if (kind == 1) {
            return below;
        }
        if (kind == 2) {
            return draw.nextInt();
        }
        return draw.nextInt(below);
    }

    private int fewBits() {
        return draw.nextInt(256) & draw.nextInt(256) & (draw.nextBoolean() ? 255 : draw.nextInt(256));
    }

    private int set() {
        int kind = draw.nextInt(40);
        return kind == 0 ? -1 : kind == 1 ? 256 : kind == 2 ? 255 : kind == 3 ? draw.nextInt() : fewBits();
    }

    private static boolean in(int number, int least, int most) {
        return number >= least && number <= most;
    }

    private int modelFault() {
        String rest = pad;
        while (!rest.isEmpty()) {
            if (rest.matches("(?s)^(/[a-h]|[a-hA-Hs]).*")) {
                rest = rest.substring(rest.charAt(0) == '/' ? 2 : 1);
            } else {
                return pad.length() - rest.length() + (rest.charAt(0) == '/' ? 1 : 0);
            }
        }
        return NONE;
    }

    /** {the step, why, model behind it} of a pad without a fault. */
    private int[] modelJudge(Model on) {
        int count = 0;
        for (int i = 0; i < pad.length(); i++, count++) {
            String step = pad.charAt(i) == '/' ? pad.substring(i, ++i + 1) : pad.substring(i, i + 1);
            if (on.reason(step) != 0) {
                return new int[] {count, on.reason(step)};
            }
            on.take(step);
        }
        return new int[] {NONE, NONE, count};
    }

    private void saySign(int sign) {
        int want = !in(sign, 33, 126) ? OUTSIDE : pad.length() == 60 ? FULL : pad.length() + 1;
        if (want > 0) {
            pad += (char) sign;
        }
        due("say(" + sign + ")", x.say(sign), want);
    }

    private void sayAll(String text) {
        for (char sign : text.toCharArray()) {
            saySign(sign);
        }
    }

    /** Steps that mostly can be, one behind another. */
    private void sayReign(int steps) {
        Model on = now.copy();
        if (!pad.isEmpty()) {
            due("wipe()", x.wipe(), pad.length());
            pad = "";
        }
        for (int i = 0; i < steps; i++) {
            int kind = draw.nextInt(12);
            char part = (char) ('a' + draw.nextInt(8));
            String step = kind == 0 ? "s" : kind == 1 ? "/" + part : kind < 4 ? "" + (char) ('A' + draw.nextInt(8)) : "" + part;
            if (i == 0 && !on.sits && draw.nextInt(4) > 0) {
                step = "s";
            }
            if (on.reason(step) == 0) {
                on.take(step);
                sayAll(step);
            } else if (draw.nextInt(150) == 0) {
                sayAll(step);
                return;
            }
        }
    }

    private void callOfPads() {
        switch (draw.nextInt(8)) {
            case 0 -> saySign(draw.nextInt(4) == 0 ? draw.nextInt(140) - 5 : "abcdefghABCDEFGHs/".charAt(draw.nextInt(18)));
            case 1 -> {
                due("wipe()", x.wipe(), pad.length());
                pad = "";
            }
            case 2 -> due("fault()", x.fault(), modelFault());
            case 3 -> {
                int what = near(2);
                int want = !in(what, 0, 1) ? OUTSIDE : modelFault() != NONE ? NO : modelJudge(now.copy())[what];
                due("judge(" + what + ")", x.judge(what), want);
            }
            case 4, 5 -> {
                int what = near(6);
                Model on = now.copy();
                boolean no = modelFault() != NONE || modelJudge(on)[0] != NONE;
                int want = !in(what, 0, 5) ? OUTSIDE : no ? NO : what == 4 ? on.spent : what == 5 ? on.repealed : on.state(what);
                due("behind(" + what + ")", x.behind(what), want);
            }
            default -> sayReign(draw.nextInt(14));
        }
    }

    private void callDone() {
        Model on = now.copy();
        int[] judged = modelFault() == NONE ? modelJudge(on) : new int[] {0, 0};
        boolean can = judged[0] == NONE;
        due("done() of " + pad, x.done(), can ? judged[2] : NO);
        if (can) {
            now = on.copy();
            pad = "";
        }
    }

    private void callOfParts() {
        if (draw.nextBoolean()) {
            int part = near(8);
            int hours = draw.nextInt(12) == 0 ? near(11) : 1 + draw.nextInt(3);
            int under = draw.nextInt(20) == 0 ? set() : draw.nextInt(256) & draw.nextInt(256) & ((1 << Math.max(0, Math.min(part, 8))) - 1);
            int gives = set();
            int want = !in(part, 0, 7) ? UNKNOWN
                : !in(hours, 1, 9) || !in(under, 0, (1 << part) - 1) || !in(gives, 0, 255) ? OUTSIDE : now.hours[part];
            if (want > 0) {
                now.over(part);
                now.hours[part] = hours;
                now.under[part] = under;
                now.gives[part] = gives;
            }
            due("part(" + part + ", " + hours + ", " + under + ", " + gives + ")", x.part(part, hours, under, gives), want);
        } else {
            int act = near(8);
            int powers = set();
            int want = !in(act, 0, 7) ? UNKNOWN : !in(powers, 0, 255) ? OUTSIDE : now.needs[act];
            if (want >= 0) {
                now.needs[act] = powers;
                now.force[act] = false;
            }
            due("needs(" + act + ", " + powers + ")", x.needs(act, powers), want);
        }
    }

    private static int refusal(int number, int below, int what, int whats) {
        return !in(number, 0, below - 1) ? UNKNOWN : !in(what, 0, whats - 1) ? OUTSIDE : 0;
    }

    private void callOfPlans() {
        int act = near(8);
        int what = near(2);
        int no = refusal(act, 8, what, 2);
        String args = "(" + act + ", " + what + ")";
        switch (draw.nextInt(9)) {
            case 0 -> due("lacks" + args, x.lacks(act, what), no != 0 ? no : now.plan(1 << act, 0)[what]);
            case 1, 2 -> {
                int wanted = set() & (draw.nextBoolean() ? -1 : fewBits());
                int not = set() & (draw.nextInt(8) == 0 ? -1 : ~wanted);
                boolean fits = in(wanted, 0, 255) && in(not, 0, 255) && (wanted & not) == 0 && in(what, 0, 1);
                int want = fits ? now.plan(wanted, not)[what] : OUTSIDE;
                due("plan(" + wanted + ", " + not + ", " + what + ")", x.plan(wanted, not, what), want);
            }
            case 3 -> {
                // the model goes through every order, too slow to do often while little is done
                if (draw.nextInt(6) == 0 || members(now.done()).size() > 2) {
                    due("orders()", x.orders(), now.orders(now.done()));
                }
            }
            case 4, 5 -> due("bar" + args, x.bar(act, what), no != 0 ? no : now.bar(act)[what]);
            case 6 -> due("falls" + args, x.falls(act, what), no != 0 ? no : now.falls(act)[what]);
            case 7 -> due("alone(" + act + ")", x.alone(act), in(act, 0, 7) ? now.alone(now.needs[act]) : UNKNOWN);
            default -> due("guard" + args, x.guard(act, what), no != 0 ? no : now.guard(act)[what]);
        }
    }

    private void callOfSights() {
        switch (draw.nextInt(6)) {
            case 0, 1 -> {
                int steps = draw.nextInt(3) == 0 ? near(61) : draw.nextInt(6);
                int act = near(8);
                boolean could = draw.nextBoolean();
                int want = !in(act, 0, 7) ? UNKNOWN : !in(steps, 0, 60) ? OUTSIDE : now.sights.size() == 8 ? FULL : now.sights.size() + 1;
                if (want > 0) {
                    now.sights.add(new Sight(steps, act, could));
                }
                due("seen(" + steps + ", " + act + ", " + could + ")", x.seen(steps, act, could), want);
            }
            case 2 -> {
                if (draw.nextInt(3) == 0) {
                    due("forget()", x.forget(), now.sights.size());
                    now.sights.clear();
                }
            }
            case 3, 4 -> {
                int what = near(3);
                due("hidden(" + what + ")", x.hidden(what), in(what, 0, 2) ? now.hidden()[what] : OUTSIDE);
            }
            default -> {
                int what = near(2);
                due("tries(" + what + ")", x.tries(what), in(what, 0, 1) ? now.tries()[what] : OUTSIDE);
            }
        }
    }

    private void callOfColonies() {
        int one = near(4);
        int other = near(4);
        boolean known = in(one, 0, 3);
        switch (draw.nextInt(4)) {
            case 0 -> {
                if (known) {
                    now.colonies[one] = now.powers(now.done());
                }
                due("send(" + one + ")", x.send(one), known ? now.powers(now.done()) : UNKNOWN);
            }
            case 1 -> due("makes(" + one + ")", x.makes(one), known ? now.makes(now.colonies[one]) : UNKNOWN);
            case 2 -> due("quarrel(" + one + ", " + other + ")", x.quarrel(one, other), !known || !in(other, 0, 3) || one == other
                ? UNKNOWN : now.makes(now.colonies[one]) ^ now.makes(now.colonies[other]));
            default -> due("sent()", x.sent(), now.sent());
        }
    }

    private void callOfChances() {
        int act = near(8);
        switch (draw.nextInt(3)) {
            case 0 -> {
                int what = near(2);
                int no = refusal(act, 8, what, 2);
                due("turns(" + act + ", " + what + ")", x.turns(act, what), no != 0 ? no : now.turns(act)[what]);
            }
            case 1 -> {
                int m = near(9);
                int t = near(11);
                int what = near(2);
                int part = near(2);
                boolean fits = in(m, 0, 8) && in(t, 0, 10) && in(what, 0, 1) && in(part, 0, 1);
                long want = !in(act, 0, 7) ? PortraitRule.LOST - 1 : fits ? now.fever(act, m, t)[2 * what + part] : PortraitRule.LOST - 2;
                due("fever(" + act + ", " + m + ", " + t + ", " + what + ", " + part + ")", x.fever(act, m, t, what, part), want);
            }
            default -> {
                int seed = near(10000);
                int m = near(100);
                int what = near(3);
                boolean fits = in(seed, 0, 9999) && in(m, 1, 99) && in(what, 0, 2);
                due("year(" + seed + ", " + m + ", " + what + ")", x.year(seed, m, what), fits ? now.year(seed, m)[what] : OUTSIDE);
            }
        }
    }

    private void callOfImages() {
        int n = near(2);
        if (draw.nextInt(3) > 0) {
            if (in(n, 0, 1)) {
                images[n] = now.copy();
            }
            due("image(" + n + ")", x.image(n), in(n, 0, 1) ? 1 : OUTSIDE);
        } else {
            int want = !in(n, 0, 1) ? OUTSIDE : images[n] == null ? STATE : 1;
            if (want == 1) {
                now = images[n].copy();
            }
            due("restore(" + n + ")", x.restore(n), want);
        }
    }

    private int modelTold(int what) {
        if (in(what, 0, 1)) {
            return what == 0 ? pad.length() : now.sights.size();
        }
        if (in(what, 2, 5)) {
            return now.colonies[what - 2];
        }
        for (int i = 0; i < 8; i++) {
            int[] rows = {now.hours[i], now.under[i], now.gives[i], now.painted[i]};
            for (int row = 0; row < 4; row++) {
                if (what == 10 * (1 + i) + row) {
                    return rows[row];
                }
            }
            if (what == 100 + i) {
                return now.needs[i];
            }
        }
        return OUTSIDE;
    }

    private void lookAtAll() {
        for (int what = -1; what < 112; what++) {
            due("told(" + what + ")", x.told(what), modelTold(what));
        }
        for (int what = 0; what < 4; what++) {
            due("state(" + what + ")", x.state(what), now.state(what));
        }
        int can = 0;
        for (int act = 0; act < 8; act++) {
            can += now.reason("" + (char) ('A' + act)) == 0 ? 1 << act : 0;
        }
        due("can()", x.can(), can);
    }

    private void call() {
        switch (draw.nextInt(20)) {
            case 0, 1, 2 -> callOfPads();
            case 3, 4, 5, 6 -> callDone();
            case 7 -> callOfParts();
            case 8, 9, 10 -> callOfPlans();
            case 11, 12 -> callOfSights();
            case 13, 14 -> callOfColonies();
            case 15, 16 -> callOfChances();
            case 17 -> callOfImages();
            case 18 -> sayReign(draw.nextInt(24));
            default -> {
                int what = near(4);
                due("state(" + what + ")", x.state(what), in(what, 0, 3) ? now.state(what) : OUTSIDE);
            }
        }
    }

    private void run() {
        int setUp = draw.nextInt(16);
        for (int i = 0; i < setUp; i++) {
            callOfParts();
        }
        while (calls < MOST_CALLS) {
            call();
        }
        lookAtAll();
    }

    public static void main(String[] args) {
        for (int run = 0; run < RUNS && wrong < 5; run++) {
            new ModelTest(run).run();
        }
        if (wrong != 0) {
            System.exit(1);
        }
    }
}
