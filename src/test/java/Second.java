import java.util.ArrayList;
import java.util.HashSet;
import java.util.List;
import java.util.Set;
import java.util.TreeSet;

/** The document read a second time, as plainly as can be: all ways are tried, nothing is made quick. */
final class Second {
    static final int NO_SUM = -1000000;

    static final class Learner {
        int step;
        int evenings;
        int price;
        int partner = -1;
        int chance;
    }

    static final class School {
        final List<Learner> learners = new ArrayList<>();
        final List<int[]> teachers = new ArrayList<>();
        /** By how much a class's step is above, and 3: what is learnt, STAY. */
        int[][] table = {{0, 100}, {0, 100}, {0, 100}, {0, 100}, {0, 100}, {0, 100}, {0, 100}};
        int easy = 15;
        int less = 0;
        int least = 1;
        int most = 15;
        int rooms = 9;
        int cost = 0;
        int fee = 0;
        int weeks = 10;
        int rise = 50;
        int tell = 0;
        int longer = 100;

        School copy() {
            School s = new School();
            for (Learner l : learners) {
                Learner m = new Learner();
                m.step = l.step;
                m.evenings = l.evenings;
                m.price = l.price;
                m.partner = l.partner;
                m.chance = l.chance;
                s.learners.add(m);
            }
            s.teachers.addAll(teachers);
            s.table = table;
            s.easy = easy;
            s.less = less;
            s.least = least;
            s.most = most;
            s.rooms = rooms;
            s.cost = cost;
            s.fee = fee;
            s.weeks = weeks;
            s.rise = rise;
            s.tell = tell;
            s.longer = longer;
            return s;
        }

        int size() {
            return learners.size();
        }

        boolean hasEvening(int l, int evening) {
            return (learners.get(l).evenings & 1 << evening) != 0;
        }
    }

    static final class Course {
        int kind;
        int teacher;
        int evening;
        int step;
        int second = -1;
        TreeSet<Integer> sits = new TreeSet<>();

        Course copy() {
            Course c = new Course();
            c.kind = kind;
            c.teacher = teacher;
            c.evening = evening;
            c.step = step;
            c.second = second;
            c.sits.addAll(sits);
            return c;
        }
    }

    static List<Course> copy(List<Course> plan) {
        List<Course> all = new ArrayList<>();
        for (Course c : plan) {
            all.add(c.copy());
        }
        return all;
    }

    static int bits(Iterable<Integer> all) {
        int bits = 0;
        for (int i : all) {
            bits |= 1 << i;
        }
        return bits;
    }

    // ---- Terms 2

    static int base(School s, int step, int own) {
        for (int d = 0; d <= 3; d++) {
            if (step == own + d) {
                return s.table[3 + d][0];
            }
            if (step + d == own) {
                return s.table[3 - d][0];
            }
        }
        return 0;
    }

    static int fit(School s, Course c, int own, List<Integer> others) {
        switch (c.kind) {
            case 1:
                return (base(s, c.step, own) + base(s, c.second, own)) / 2;
            case 2:
                int breadth = s.teachers.get(c.teacher)[1];
                if (Math.abs(c.step - own) <= breadth) {
                    return base(s, own, own);
                }
                return base(s, c.step > own ? c.step - breadth : c.step + breadth, own);
            case 3:
                return base(s, c.step, own) * s.longer / 100;
            case 4:
                boolean near = others.contains(own - 1) || others.contains(own + 1);
                return base(s, c.step, own) + (near ? s.tell : 0);
            default:
                return base(s, c.step, own);
        }
    }

    /** LEARNT by one of STEP own, with others of these STEPS. */
    static int byOne(School s, Course c, int own, List<Integer> others) {
        int over = others.size() + 1 - s.easy;
        int left = 100 - s.less * (over < 0 ? 0 : over);
        return fit(s, c, own, others) * (left < 0 ? 0 : left) / 100;
    }

    static List<Integer> steps(School s, Iterable<Integer> who, int but) {
        List<Integer> steps = new ArrayList<>();
        for (int i : who) {
            if (i != but) {
                steps.add(s.learners.get(i).step);
            }
        }
        return steps;
    }

    /** LEARNT in a class by some of these STEPS. */
    static int bySteps(School s, Course c, List<Integer> steps) {
        int sum = 0;
        for (int i = 0; i < steps.size(); i++) {
            List<Integer> others = new ArrayList<>(steps);
            int own = others.remove(i);
            sum += byOne(s, c, own, others);
        }
        return sum;
    }

    static int by(School s, Course c, Iterable<Integer> who) {
        return bySteps(s, c, steps(s, who, -1));
    }

    static int learnt(School s, List<Course> plan) {
        int sum = 0;
        for (Course c : plan) {
            sum += by(s, c, c.sits);
        }
        return sum;
    }

    static int learntOf(School s, Course c, int l) {
        return byOne(s, c, s.learners.get(l).step, steps(s, c.sits, l));
    }

    static boolean can(School s, Course c, int l) {
        return s.hasEvening(l, c.evening) && s.learners.get(l).price >= s.fee;
    }

    static int[] wrong(School s, List<Course> plan) {
        for (int k = 0; k < plan.size(); k++) {
            Course c = plan.get(k);
            int ofHis = 0;
            int onIt = 0;
            TreeSet<Integer> ahead = new TreeSet<>();
            for (Course o : plan.subList(0, k)) {
                onIt += o.evening == c.evening ? 1 : 0;
                ofHis += o.evening == c.evening && o.teacher == c.teacher ? 1 : 0;
                ahead.addAll(o.sits);
            }
            int which = (s.teachers.get(c.teacher)[0] & 1 << c.evening) == 0 ? 1 : ofHis > 0 ? 2 : onIt >= s.rooms ? 3
                    : c.sits.size() < s.least ? 4 : c.sits.size() > s.most ? 5 : 0;
            if (which != 0) {
                return new int[] {which, k, -1};
            }
            for (int l : c.sits) {
                Learner who = s.learners.get(l);
                which = !s.hasEvening(l, c.evening) ? 6 : ahead.contains(l) ? 7 : who.price < s.fee ? 8
                        : who.partner != -1 && !c.sits.contains(who.partner) ? 9 : 0;
                if (which != 0) {
                    return new int[] {which, k, l};
                }
            }
        }
        return new int[] {0, -1, -1};
    }

    static TreeSet<Integer> home(School s, List<Course> plan) {
        TreeSet<Integer> home = new TreeSet<>();
        for (int l = 0; l < s.size(); l++) {
            home.add(l);
        }
        for (Course c : plan) {
            home.removeAll(c.sits);
        }
        return home;
    }

    static int coin(School s, List<Course> plan, int cost) {
        int coin = 0;
        for (Course c : plan) {
            coin += s.fee * c.sits.size() - cost;
        }
        return coin;
    }

    // ---- Terms 3

    /** The step by which most is learnt by these, and how much. */
    static int[] bestStep(School s, Course c, Iterable<Integer> who) {
        int[] best = {-1, -1};
        Course trial = c.copy();
        for (int step = 11; step >= 0; step--) {
            trial.step = step;
            int learnt = by(s, trial, who);
            if (learnt >= best[1]) {
                best = new int[] {step, learnt};
            }
        }
        return best;
    }

    /** What line() answers, by what; null if there is none. */
    static List<int[]> line(School s, int k) {
        List<Integer> row = new ArrayList<>();
        for (int step = 0; step <= 11; step++) {
            for (int l = 0; l < s.size(); l++) {
                if (s.learners.get(l).step == step) {
                    row.add(l);
                }
            }
        }
        int[][][] known = new int[17][17][];
        List<Integer> best = null;
        int most = -1;
        for (int n = 0; n <= k; n++) {
            List<List<Integer>> all = new ArrayList<>();
            cuts(s, row.size(), n, new ArrayList<>(), all);
            for (List<Integer> cut : all) {
                int from = 0;
                int sum = 0;
                for (int size : cut) {
                    if (known[from][size] == null) {
                        known[from][size] = bestStep(s, new Course(), row.subList(from, from + size));
                    }
                    sum += known[from][size][1];
                    from += size;
                }
                if (sum > most) {
                    most = sum;
                    best = cut;
                }
            }
        }
        if (best == null) {
            return null;
        }
        List<int[]> told = new ArrayList<>();
        told.add(new int[] {0, most});
        told.add(new int[] {1, best.size()});
        int from = 0;
        for (int i = 0; i < best.size(); i++) {
            told.add(new int[] {10 + i, best.get(i)});
            told.add(new int[] {20 + i, known[from][best.get(i)][0]});
            from += best.get(i);
        }
        for (int j = 0; j < row.size(); j++) {
            told.add(new int[] {30 + j, row.get(j)});
        }
        return told;
    }

    /** All ways to cut so many into n classes, those with few in the first ones ahead. */
    private static void cuts(School s, int left, int n, List<Integer> sizes, List<List<Integer>> all) {
        if (n == 0) {
            if (left == 0) {
                all.add(new ArrayList<>(sizes));
            }
            return;
        }
        for (int size = s.least; size <= s.most && size <= left; size++) {
            sizes.add(size);
            cuts(s, left - size, n - 1, sizes, all);
            sizes.remove(sizes.size() - 1);
        }
    }

    /** The best row of classes (their number for home), and what is learnt behind it. */
    static int[] seats(School s, List<Course> plan) {
        int n = s.size();
        int[] best = new int[n + 1];
        best[n] = -1;
        int rows = 1;
        for (int l = 0; l < n; l++) {
            rows *= plan.size() + 1;
        }
        for (int r = 0; r < rows; r++) {
            int[] row = new int[n];
            int rest = r;
            for (int l = n - 1; l >= 0; l--) {
                row[l] = rest % (plan.size() + 1);
                rest /= plan.size() + 1;
            }
            int learnt = inRow(s, plan, row);
            if (learnt > best[n]) {
                System.arraycopy(row, 0, best, 0, n);
                best[n] = learnt;
            }
        }
        return best;
    }

    private static int inRow(School s, List<Course> plan, int[] row) {
        for (int l = 0; l < row.length; l++) {
            int partner = s.learners.get(l).partner;
            if (partner != -1 && row[partner] != row[l] || row[l] < plan.size() && !can(s, plan.get(row[l]), l)) {
                return -1;
            }
        }
        int sum = 0;
        for (int k = 0; k < plan.size(); k++) {
            List<Integer> there = new ArrayList<>();
            for (int l = 0; l < row.length; l++) {
                if (row[l] == k) {
                    there.add(l);
                }
            }
            if (!there.isEmpty() && (there.size() < s.least || there.size() > s.most)) {
                return -1;
            }
            sum += by(s, plan.get(k), there);
        }
        return sum;
    }

    static int fewest(School s, List<Course> plan) {
        int best = -1;
        for (int set = (1 << plan.size()) - 1; set >= 0; set--) {
            boolean better = best == -1 || Integer.bitCount(set) <= Integer.bitCount(best);
            if (better && allSit(s, plan, set)) {
                best = set;
            }
        }
        return best;
    }

    /** Learner by learner: all the ways that the classes can be filled so far, by how many are where. */
    private static boolean allSit(School s, List<Course> plan, int set) {
        Set<Long> ways = new HashSet<>();
        ways.add(0L);
        for (int l = 0; l < s.size(); l++) {
            Set<Long> then = new HashSet<>();
            for (int k = 0; k < plan.size(); k++) {
                if ((set & 1 << k) != 0 && can(s, plan.get(k), l)) {
                    for (long way : ways) {
                        if ((way >> 5 * k & 31) < s.most) {
                            then.add(way + (1L << 5 * k));
                        }
                    }
                }
            }
            ways = then;
        }
        for (long way : ways) {
            boolean holds = true;
            for (int k = 0; k < plan.size(); k++) {
                holds &= (set & 1 << k) == 0 || (way >> 5 * k & 31) >= s.least;
            }
            if (holds) {
                return true;
            }
        }
        return false;
    }

    static int test(School s, List<Course> plan, int l) {
        int own = s.learners.get(l).step;
        int c = s.learners.get(l).chance;
        List<Integer> nobody = new ArrayList<>();
        int without = -1;
        int low = -1;
        int high = -1;
        for (Course k : plan) {
            if (can(s, k, l)) {
                int now = fit(s, k, own, nobody);
                int then = fit(s, k, own + 1, nobody);
                without = Math.max(without, (100 - c) * now + c * then);
                low = Math.max(low, now);
                high = Math.max(high, then);
            }
        }
        return without == -1 ? -1 : (100 - c) * low + c * high - without;
    }

    static int whom(School s, List<Course> plan) {
        int whom = -1;
        for (int l = s.size() - 1; l >= 0; l--) {
            int worth = test(s, plan, l);
            if (worth > 0 && (whom == -1 || worth >= test(s, plan, whom))) {
                whom = l;
            }
        }
        return whom;
    }

    static int[] move(School s, List<Course> plan) {
        int[] best = {-1, -1, 0};
        for (int l = 0; l < s.size(); l++) {
            List<Integer> where = new ArrayList<>();
            for (int k = 0; k < plan.size(); k++) {
                if (plan.get(k).sits.contains(l)) {
                    where.add(k);
                }
            }
            for (int to = 0; where.size() == 1 && to < plan.size(); to++) {
                List<Course> then = copy(plan);
                Course from = then.get(where.get(0));
                from.sits.remove(l);
                boolean holds = from.sits.isEmpty() || from.sits.size() >= s.least;
                if (to != where.get(0) && holds && can(s, plan.get(to), l) && plan.get(to).sits.size() < s.most) {
                    then.get(to).sits.add(l);
                    int grows = learnt(s, then) - learnt(s, plan);
                    best = grows > best[2] ? new int[] {l, to, grows} : best;
                }
            }
        }
        return best[0] == -1 ? new int[] {-1, -1, -1} : best;
    }

    static int ill(School s, List<Course> plan, int teacher) {
        List<Course> rest = copy(plan);
        rest.removeIf(c -> c.teacher == teacher);
        TreeSet<Integer> gone = home(s, rest);
        gone.removeAll(home(s, plan));
        return gone.size() > 6 ? -1 : share(s, rest, new ArrayList<>(gone));
    }

    private static int share(School s, List<Course> rest, List<Integer> gone) {
        if (gone.isEmpty()) {
            return learnt(s, rest);
        }
        int l = gone.get(0);
        List<Integer> others = gone.subList(1, gone.size());
        int best = share(s, rest, others);
        for (Course c : rest) {
            if (can(s, c, l) && c.sits.size() + 1 <= s.most) {
                c.sits.add(l);
                best = Math.max(best, share(s, rest, others));
                c.sits.remove(l);
            }
        }
        return best;
    }

    // ---- Terms 4

    static int fills(School s, boolean pays) {
        int best = -1;
        int most = -1;
        for (int fee = 0; fee <= 999 && s.size() > 0; fee++) {
            int can = 0;
            for (Learner l : s.learners) {
                can += l.price >= fee ? 1 : 0;
            }
            if (pays ? fee * can > most : can == s.size()) {
                most = fee * can;
                best = fee;
            }
        }
        return best;
    }

    static School nextYear(School s, List<Course> plan) {
        School then = s.copy();
        for (int l = 0; l < s.size(); l++) {
            int learnt = 0;
            for (Course c : plan) {
                learnt += c.sits.contains(l) ? learntOf(s, c, l) : 0;
            }
            if (learnt >= s.rise) {
                then.learners.get(l).step = Math.min(11, s.learners.get(l).step + 1);
            }
        }
        return then;
    }

    static int ladder(School s, List<Course> plan, int n) {
        School then = s;
        for (int year = 1; year < n; year++) {
            then = nextYear(then, plan);
        }
        return learnt(then, plan);
    }

    /** Neighbours by learners (-1 alone), the most behind them. */
    static int[] beside(School s, Course c) {
        int[] best = new int[17];
        best[16] = -1;
        bench(s, new ArrayList<>(c.sits), new int[17], best);
        return best;
    }

    private static void bench(School s, List<Integer> left, int[] now, int[] best) {
        if (left.isEmpty()) {
            if (now[16] > best[16]) {
                System.arraycopy(now, 0, best, 0, 17);
            }
            return;
        }
        int one = left.get(0);
        for (int other : left.subList(1, left.size())) {
            List<Integer> rest = new ArrayList<>(left);
            rest.remove((Object) one);
            rest.remove((Object) other);
            int worth = Math.abs(s.learners.get(one).step - s.learners.get(other).step) == 1 ? s.tell : 0;
            worth += s.learners.get(one).partner == other ? 2 * s.tell : 0;
            now[one] = other;
            now[other] = one;
            now[16] += worth;
            bench(s, rest, now, best);
            now[16] -= worth;
        }
        now[one] = -1;
        bench(s, left.subList(1, left.size()), now, best);
    }

    /** Who sits where behind so many weeks; ended gets the weeks behind which classes ended. */
    static List<Course> weeks(School s, List<Course> plan, int seed, int weeks, int[] ended) {
        List<Course> then = copy(plan);
        java.util.Arrays.fill(ended, -1);
        long x = seed & 0xffffffffL;
        for (int week = 1; week <= weeks; week++) {
            for (Course c : then) {
                for (int l : new ArrayList<>(c.sits)) {
                    x = x * 1103515245L + 12345L & 0xffffffffL;
                    int d = c.step - s.learners.get(l).step + 3;
                    int stay = d < 0 || d > 6 ? 0 : s.table[d][1];
                    if ((x >> 16) % 100 >= stay) {
                        c.sits.remove(l);
                    }
                }
            }
            for (int k = 0; k < then.size(); k++) {
                if (ended[k] == -1 && then.get(k).sits.size() < s.least) {
                    then.get(k).sits.clear();
                    ended[k] = week;
                }
            }
        }
        return then;
    }

    static int lacks(School s, int evening) {
        int have = 0;
        for (int l = 0; l < s.size(); l++) {
            have += s.hasEvening(l, evening) ? 1 : 0;
        }
        int teachers = 0;
        for (int[] t : s.teachers) {
            teachers += (t[0] & 1 << evening) != 0 ? 1 : 0;
        }
        return Math.max(0, have - s.most * Math.min(teachers, s.rooms));
    }

    static int more(School s, Course c, int step) {
        List<Integer> steps = steps(s, c.sits, -1);
        int before = bySteps(s, c, steps);
        steps.add(step);
        return bySteps(s, c, steps) - before;
    }

    static int lonely(School s) {
        TreeSet<Integer> lonely = new TreeSet<>();
        for (int l = 0; l < s.size(); l++) {
            Learner a = s.learners.get(l);
            boolean alone = true;
            for (int m = 0; m < s.size(); m++) {
                Learner b = s.learners.get(m);
                int apart = a.step - b.step;
                alone &= m == l || apart < -1 || apart > 1 || (a.evenings & b.evenings) == 0;
            }
            if (alone) {
                lonely.add(l);
            }
        }
        return bits(lonely);
    }

    // ---- Terms 5

    static int order(School s, List<Course> one, List<Course> other) {
        int first = learnt(s, one) + learnt(nextYear(s, one), other);
        int second = learnt(s, other) + learnt(nextYear(s, other), one);
        return first > second ? 0 : second > first ? 1 : 2;
    }

    static int let(School s, List<Course> plan, int l) {
        int best = -1;
        int most = 0;
        for (int k = 0; k < plan.size() && home(s, plan).contains(l); k++) {
            List<Course> then = copy(plan);
            Course c = then.get(k);
            if (can(s, c, l) && c.sits.size() < s.most) {
                c.sits.add(l);
                int learnt = learnt(s, then);
                if (best == -1 || learnt > most) {
                    best = k;
                    most = learnt;
                }
            }
        }
        return best;
    }

    static int june(School s, Course c, int l, int n) {
        int step = s.learners.get(l).step;
        for (int year = 0; year < n; year++) {
            step += byOne(s, c, step, steps(s, c.sits, l)) >= s.rise && step < 11 ? 1 : 0;
        }
        return step;
    }

    static int[] merge(School s, List<Course> plan) {
        int[] best = {NO_SUM, NO_SUM, NO_SUM};
        for (int i = 0; i < plan.size(); i++) {
            for (int j = i + 1; j < plan.size(); j++) {
                List<Course> then = copy(plan);
                then.get(i).sits.addAll(then.get(j).sits);
                boolean holds = then.get(i).sits.size() <= s.most && plan.get(i).evening == plan.get(j).evening;
                then.remove(j);
                int grows = learnt(s, then) - learnt(s, plan);
                if (holds && (best[0] == NO_SUM || grows > best[2])) {
                    best = new int[] {i, j, grows};
                }
            }
        }
        return best;
    }

    static int open(School s, List<Course> plan, int step) {
        int best = -1;
        int most = -1;
        for (int evening = 5; evening >= 0; evening--) {
            int classes = 0;
            TreeSet<Integer> free = new TreeSet<>();
            for (int t = 0; t < s.teachers.size(); t++) {
                if ((s.teachers.get(t)[0] & 1 << evening) != 0) {
                    free.add(t);
                }
            }
            for (Course c : plan) {
                if (c.evening == evening) {
                    classes++;
                    free.remove(c.teacher);
                }
            }
            int come = 0;
            for (int l : home(s, plan)) {
                Learner who = s.learners.get(l);
                come += s.hasEvening(l, evening) && who.price >= s.fee && base(s, step, who.step) > 0 ? 1 : 0;
            }
            if (!free.isEmpty() && classes < s.rooms && come >= s.least && come >= most) {
                best = evening;
                most = come;
            }
        }
        return best;
    }

    static int off(School s, int fee) {
        TreeSet<Integer> off = new TreeSet<>();
        for (int l = 0; l < s.size(); l++) {
            if (s.learners.get(l).price < fee) {
                off.add(l);
            }
        }
        return bits(off);
    }

    static int holds(School s, List<Course> plan, int seed, int w, int k) {
        int holds = 0;
        for (int i = 0; i < w; i++) {
            int[] ended = new int[6];
            weeks(s, plan, seed + i, s.weeks, ended);
            holds += ended[k] == -1 ? 1 : 0;
        }
        return holds;
    }

    static int spread(School s, Course c) {
        List<Integer> steps = steps(s, c.sits, -1);
        return steps.isEmpty() ? -1 : java.util.Collections.max(steps) - java.util.Collections.min(steps);
    }

    static int toll(School s, List<Course> plan) {
        int cost = 0;
        while (cost < 1000 && coin(s, plan, cost) >= 0) {
            cost++;
        }
        return cost;
    }

    static int busy(School s, List<Course> plan, int teacher) {
        TreeSet<Integer> evenings = new TreeSet<>();
        for (Course c : plan) {
            if (c.teacher == teacher && (s.teachers.get(teacher)[0] & 1 << c.evening) != 0) {
                evenings.add(c.evening);
            }
        }
        return evenings.size();
    }

    static int pass(School s, List<Course> plan) {
        School then = nextYear(s, plan);
        TreeSet<Integer> pass = new TreeSet<>();
        for (int l = 0; l < s.size(); l++) {
            if (then.learners.get(l).step > s.learners.get(l).step) {
                pass.add(l);
            }
        }
        return bits(pass);
    }
}
