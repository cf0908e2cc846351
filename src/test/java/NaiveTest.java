import java.util.ArrayList;
import java.util.HashSet;
import java.util.List;
import java.util.Random;
import java.util.Set;

/** Compares SchoolDoors with a plain model that tries all ways, on schools and plans by seeds. */
public final class NaiveTest {
    private static int wrong = 0;
    private static int compared = 0;
    /** For several schools one after the other: what an earlier one left in tables must not count. */
    private static SchoolDoors used = new SchoolDoors();
    private static final int[] sizes = new int[17];

    private static final class Pupil {
        int step;
        int evenings;
        int price;
        int partner = -1;
        int chance;
    }

    private static final class Course {
        int kind;
        int teacher;
        int evening;
        int step;
        int second = -1;
        List<Integer> sits = new ArrayList<>();
    }

    private static final class Model {
        List<Pupil> pupils = new ArrayList<>();
        List<int[]> teachers = new ArrayList<>();
        int[] gain = new int[7];
        int[] stay = {100, 100, 100, 100, 100, 100, 100};
        int easy = 15, less = 0, least = 1, most = 15, rooms = 9, cost = 0, fee = 0, weeks = 10, rise = 50,
                tell = 0, longer = 100;
    }

    private static void due(String call, long got, long want) {
        compared++;
        if (got != want) {
            wrong++;
            if (wrong < 40) {
                System.out.println(call + " answered " + got + ", due is " + want);
            }
        }
    }

    static void feed(SchoolDoors x, String text) {
        x.end(0);
        byte[] bytes = new byte[(text.length() + 19) / 20 * 20];
        for (int i = 0; i < text.length(); i++) {
            bytes[i] = (byte) text.charAt(i);
        }
        int[] n = new int[5];
        for (int at = 0; at < bytes.length; at += 20) {
            for (int i = 0; i < 5; i++) {
                n[i] = 0;
                for (int j = 0; j < 4; j++) {
                    n[i] = n[i] << 8 | bytes[at + 4 * i + j] & 255;
                }
            }
            x.feed(n[0], n[1], n[2], n[3], n[4]);
        }
        due("end", x.end(text.length()), text.length());
    }

    // ---- what the document says, as plainly as can be

    private static int base(Model m, int step, int own) {
        int d = step - own;
        return Math.abs(d) > 3 ? 0 : m.gain[d + 3];
    }

    private static int plainFit(Model m, Course c, int own) {
        if (c.kind == 1) {
            return (base(m, c.step, own) + base(m, c.second, own)) / 2;
        }
        if (c.kind == 2) {
            int step = c.step;
            for (int i = 0; i < m.teachers.get(c.teacher)[1]; i++) {
                step += Integer.signum(own - step);
            }
            return base(m, step, own);
        }
        return c.kind == 3 ? base(m, c.step, own) * m.longer / 100 : base(m, c.step, own);
    }

    private static int fit(Model m, Course c, List<Integer> sits, int who, int own) {
        int fit = plainFit(m, c, own);
        if (c.kind == 4) {
            for (int other : sits) {
                if (other != who && Math.abs(m.pupils.get(other).step - own) == 1) {
                    return fit + m.tell;
                }
            }
        }
        return fit;
    }

    private static int one(Model m, Course c, List<Integer> sits, int who, int own) {
        int over = Math.max(0, sits.size() - m.easy);
        return fit(m, c, sits, who, own) * Math.max(0, 100 - m.less * over) / 100;
    }

    private static int all(Model m, Course c, List<Integer> sits) {
        int sum = 0;
        for (int who : sits) {
            sum += one(m, c, sits, who, m.pupils.get(who).step);
        }
        return sum;
    }

    private static int total(Model m, List<Course> plan) {
        int sum = 0;
        for (Course c : plan) {
            sum += all(m, c, c.sits);
        }
        return sum;
    }

    private static boolean can(Model m, Course c, int who) {
        return (m.pupils.get(who).evenings >> c.evening & 1) == 1 && m.pupils.get(who).price >= m.fee;
    }

    private static boolean atHome(List<Course> plan, int who) {
        return plan.stream().noneMatch(c -> c.sits.contains(who));
    }

    private static int[] wrongOf(Model m, List<Course> plan) {
        for (int k = 0; k < plan.size(); k++) {
            Course c = plan.get(k);
            List<Course> ahead = plan.subList(0, k);
            if ((m.teachers.get(c.teacher)[0] >> c.evening & 1) == 0) {
                return new int[] {1, k, -1};
            }
            if (ahead.stream().anyMatch(o -> o.evening == c.evening && o.teacher == c.teacher)) {
                return new int[] {2, k, -1};
            }
            if (ahead.stream().filter(o -> o.evening == c.evening).count() == m.rooms) {
                return new int[] {3, k, -1};
            }
            if (c.sits.size() < m.least) {
                return new int[] {4, k, -1};
            }
            if (c.sits.size() > m.most) {
                return new int[] {5, k, -1};
            }
            for (int who : c.sits) {
                Pupil p = m.pupils.get(who);
                int which = (p.evenings >> c.evening & 1) == 0 ? 6
                        : ahead.stream().anyMatch(o -> o.sits.contains(who)) ? 7
                        : p.price < m.fee ? 8
                        : p.partner >= 0 && !c.sits.contains(p.partner) ? 9 : 0;
                if (which != 0) {
                    return new int[] {which, k, who};
                }
            }
        }
        return new int[] {0, -1, -1};
    }

    // ---- the line, by all ways to cut it

    private static int[] bestSizes;
    private static int bestLearnt;

    private static int[] stepFor(Model m, Course c, List<Integer> sits) {
        int best = -1;
        int at = -1;
        Course copy = copyOf(c);
        for (int step = 0; step < 12; step++) {
            copy.step = step;
            int learnt = all(m, copy, sits);
            if (learnt > best) {
                best = learnt;
                at = step;
            }
        }
        return new int[] {best, at};
    }

    private static Course copyOf(Course c) {
        Course copy = new Course();
        copy.kind = c.kind;
        copy.teacher = c.teacher;
        copy.evening = c.evening;
        copy.step = c.step;
        copy.second = c.second;
        copy.sits = new ArrayList<>(c.sits);
        return copy;
    }

    private static boolean better(int learnt, List<Integer> sizes) {
        if (learnt != bestLearnt) {
            return learnt > bestLearnt;
        }
        if (sizes.size() != bestSizes.length) {
            return sizes.size() < bestSizes.length;
        }
        for (int i = 0; i < sizes.size(); i++) {
            if (sizes.get(i) != bestSizes[i]) {
                return sizes.get(i) < bestSizes[i];
            }
        }
        return false;
    }

    private static void cut(Model m, List<Integer> row, int from, int k, List<Integer> sizes, int learnt) {
        if (from == row.size()) {
            if (better(learnt, sizes)) {
                bestLearnt = learnt;
                bestSizes = sizes.stream().mapToInt(i -> i).toArray();
            }
            return;
        }
        if (k == 0) {
            return;
        }
        for (int n = m.least; n <= m.most && from + n <= row.size(); n++) {
            sizes.add(n);
            int here = stepFor(m, new Course(), row.subList(from, from + n))[0];
            cut(m, row, from + n, k - 1, sizes, learnt + here);
            sizes.remove(sizes.size() - 1);
        }
    }

    private static void compareLine(SchoolDoors x, Model m, Random r) {
        List<Integer> row = new ArrayList<>();
        for (int i = 0; i < m.pupils.size(); i++) {
            row.add(i);
        }
        row.sort((a, b) -> m.pupils.get(a).step != m.pupils.get(b).step
                ? m.pupils.get(a).step - m.pupils.get(b).step : a - b);
        int k = 1 + r.nextInt(m.pupils.size() > 11 ? 3 : 6);
        bestLearnt = -1;
        bestSizes = new int[0];
        cut(m, row, 0, k, new ArrayList<>(), 0);
        due("line 0", x.line(0, k, 0), bestLearnt);
        due("line 1", x.line(0, k, 1), bestLearnt < 0 ? -1 : bestSizes.length);
        int from = 0;
        for (int i = 0; i < 6; i++) {
            boolean there = bestLearnt >= 0 && i < bestSizes.length;
            due("line size", x.line(0, k, 10 + i), there ? bestSizes[i] : -1);
            int step = there ? stepFor(m, new Course(), row.subList(from, from + bestSizes[i]))[1] : -1;
            due("line step", x.line(0, k, 20 + i), step);
            from += there ? bestSizes[i] : 0;
        }
        for (int j = 0; j < 16; j++) {
            due("line row", x.line(0, k, 30 + j), bestLearnt >= 0 && j < row.size() ? row.get(j) : -1);
        }
    }

    // ---- seats, by all rows in their order

    private static int[] bestRow;
    private static int bestSeats;

    private static void seatAll(Model m, List<Course> plan, int[] row, int who) {
        if (who == row.length) {
            weighRow(m, plan, row);
            return;
        }
        for (int k = 0; k <= plan.size(); k++) {
            int partner = m.pupils.get(who).partner;
            boolean torn = partner >= 0 && partner < who && row[partner] != k;
            if (!torn && (k == plan.size() || can(m, plan.get(k), who))) {
                row[who] = k;
                seatAll(m, plan, row, who + 1);
            }
        }
    }

    private static void weighRow(Model m, List<Course> plan, int[] row) {
        int sum = 0;
        for (int k = 0; k < plan.size(); k++) {
            List<Integer> sits = new ArrayList<>();
            for (int i = 0; i < row.length; i++) {
                if (row[i] == k) {
                    sits.add(i);
                }
            }
            if (!sits.isEmpty() && (sits.size() < m.least || sits.size() > m.most)) {
                return;
            }
            sum += all(m, plan.get(k), sits);
        }
        if (sum > bestSeats) {
            bestSeats = sum;
            bestRow = row.clone();
        }
    }

    private static void compareSeats(SchoolDoors x, Model m, List<Course> plan) {
        if (m.pupils.size() > 8 || plan.size() > 3) {
            due("seats many", x.seats(0, 0, 0), -2);
            return;
        }
        bestSeats = -1;
        seatAll(m, plan, new int[m.pupils.size()], 0);
        due("seats 0", x.seats(0, 0, 0), bestSeats);
        for (int i = 0; i < 9; i++) {
            int want = i >= m.pupils.size() ? -2 : bestRow[i] == plan.size() ? -1 : bestRow[i];
            due("seats of", x.seats(0, 0, 10 + i), want);
        }
    }

    // ---- fewest, by trying seats one after the other

    private static boolean place(Model m, List<Course> plan, int set, int who, int[] taken, Set<String> dead) {
        if (who == m.pupils.size()) {
            for (int k = 0; k < plan.size(); k++) {
                if ((set >> k & 1) == 1 && taken[k] < m.least) {
                    return false;
                }
            }
            return true;
        }
        StringBuilder key = new StringBuilder();
        for (int n : taken) {
            key.append(n).append(' ');
        }
        if (!dead.add(key.toString())) {
            return false;
        }
        for (int k = 0; k < plan.size(); k++) {
            if ((set >> k & 1) == 1 && taken[k] < m.most && can(m, plan.get(k), who)) {
                taken[k]++;
                if (place(m, plan, set, who + 1, taken, dead)) {
                    return true;
                }
                taken[k]--;
            }
        }
        return false;
    }

    private static int fewest(Model m, List<Course> plan) {
        for (int n = 0; n <= plan.size(); n++) {
            for (int set = 0; set < 1 << plan.size(); set++) {
                if (Integer.bitCount(set) == n && place(m, plan, set, 0, new int[plan.size()], new HashSet<>())) {
                    return set;
                }
            }
        }
        return -1;
    }

    // ---- a teacher who is ill, by all ways

    private static int bestIll;

    private static void ill(Model m, List<Course> rest, List<Integer> moved, int at) {
        if (at == moved.size()) {
            bestIll = Math.max(bestIll, total(m, rest));
            return;
        }
        int who = moved.get(at);
        ill(m, rest, moved, at + 1);
        for (Course c : rest) {
            if (can(m, c, who) && c.sits.size() < m.most) {
                c.sits.add(who);
                ill(m, rest, moved, at + 1);
                c.sits.remove(c.sits.size() - 1);
            }
        }
    }

    private static int illOf(Model m, List<Course> plan, int teacher) {
        List<Course> rest = new ArrayList<>();
        List<Integer> moved = new ArrayList<>();
        for (Course c : plan) {
            if (c.teacher != teacher) {
                rest.add(copyOf(c));
            }
        }
        for (int i = 0; i < m.pupils.size(); i++) {
            if (!atHome(plan, i) && atHome(rest, i)) {
                moved.add(i);
            }
        }
        if (moved.size() > 6) {
            return -1;
        }
        bestIll = -1;
        ill(m, rest, moved, 0);
        return bestIll;
    }

    // ---- moves, merges and lets, by doing them

    private static int[] moveOf(Model m, List<Course> plan) {
        int[] best = {-1, -1, 0};
        int before = total(m, plan);
        for (int who = 0; who < m.pupils.size(); who++) {
            int i = who;
            if (plan.stream().filter(c -> c.sits.contains(i)).count() != 1) {
                continue;
            }
            Course from = plan.stream().filter(c -> c.sits.contains(i)).findFirst().get();
            for (int k = 0; k < plan.size(); k++) {
                Course to = plan.get(k);
                int left = from.sits.size() - 1;
                if (to == from || !can(m, to, who) || to.sits.size() >= m.most || (left > 0 && left < m.least)) {
                    continue;
                }
                List<Integer> was = new ArrayList<>(from.sits);
                from.sits.remove(Integer.valueOf(who));
                to.sits.add(who);
                int grows = total(m, plan) - before;
                to.sits.remove(Integer.valueOf(who));
                from.sits = was;
                if (grows > best[2]) {
                    best = new int[] {who, k, grows};
                }
            }
        }
        return best[0] < 0 ? new int[] {-1, -1, -1} : best;
    }

    private static int[] mergeOf(Model m, List<Course> plan) {
        int[] best = {-1000000, -1000000, -1000000};
        for (int i = 0; i < plan.size(); i++) {
            for (int j = i + 1; j < plan.size(); j++) {
                List<Course> then = new ArrayList<>();
                for (Course c : plan) {
                    then.add(copyOf(c));
                }
                Course first = then.get(i);
                Course second = then.remove(j);
                for (int who : second.sits) {
                    if (!first.sits.contains(who)) {
                        first.sits.add(who);
                    }
                }
                int grows = total(m, then) - total(m, plan);
                if (first.evening == second.evening && first.sits.size() <= m.most && grows > best[2]) {
                    best = new int[] {i, j, grows};
                }
            }
        }
        return best;
    }

    private static int letOf(Model m, List<Course> plan, int who) {
        int best = Integer.MIN_VALUE;
        int where = -1;
        for (int k = 0; k < plan.size() && atHome(plan, who); k++) {
            Course c = plan.get(k);
            if (can(m, c, who) && c.sits.size() < m.most) {
                int before = total(m, plan);
                c.sits.add(who);
                int grows = total(m, plan) - before;
                c.sits.remove(Integer.valueOf(who));
                if (grows > best) {
                    best = grows;
                    where = k;
                }
            }
        }
        return where;
    }

    // ---- who sits beside whom, by all ways in their order

    /** All ways of ten to twelve take long: a few classes of so many are enough. */
    private static int manyBeside = 0;
    private static int bestBeside;
    private static int[] bestNeighbours;

    private static void bench(Model m, List<Integer> left, int[] row, int sum) {
        if (left.isEmpty()) {
            if (sum > bestBeside) {
                bestBeside = sum;
                bestNeighbours = row.clone();
            }
            return;
        }
        int one = left.get(0);
        for (int j = 1; j <= left.size(); j++) {
            List<Integer> rest = new ArrayList<>(left);
            rest.remove(0);
            int worth = 0;
            row[one] = -1;
            if (j < left.size()) {
                int other = rest.remove(j - 1);
                row[one] = other;
                row[other] = one;
                worth += Math.abs(m.pupils.get(one).step - m.pupils.get(other).step) == 1 ? m.tell : 0;
                worth += m.pupils.get(one).partner == other ? 2 * m.tell : 0;
            }
            bench(m, rest, row, sum + worth);
        }
    }

    private static void compareBeside(SchoolDoors x, Model m, Course c, int k) {
        boolean many = c.sits.size() > 9 && c.sits.size() <= 12;
        if (many && manyBeside++ >= 12) {
            return;
        }
        bestBeside = -1;
        if (c.sits.size() <= 12) {
            bench(m, c.sits, new int[16], 0);
        }
        due("beside", x.beside(0, 0, k, -1), c.sits.size() > 12 ? -2 : bestBeside);
        for (int i = 0; i < 17; i++) {
            boolean there = c.sits.size() <= 12 && c.sits.contains(i);
            due("beside one", x.beside(0, 0, k, i), there ? bestNeighbours[i] : -2);
        }
    }

    // ---- years

    private static List<Integer> rising(Model m, List<Course> plan) {
        List<Integer> rising = new ArrayList<>();
        for (int i = 0; i < m.pupils.size(); i++) {
            int learnt = 0;
            for (Course c : plan) {
                learnt += c.sits.contains(i) ? one(m, c, c.sits, i, m.pupils.get(i).step) : 0;
            }
            if (learnt >= m.rise && m.pupils.get(i).step < 11) {
                rising.add(i);
            }
        }
        return rising;
    }

    private static void rise(Model m, List<Integer> who, int by) {
        for (int i : who) {
            m.pupils.get(i).step += by;
        }
    }

    private static int ladder(Model m, List<Course> plan, int n) {
        if (n == 1) {
            return total(m, plan);
        }
        List<Integer> rising = rising(m, plan);
        rise(m, rising, 1);
        int learnt = ladder(m, plan, n - 1);
        rise(m, rising, -1);
        return learnt;
    }

    private static int inTwoYears(Model m, List<Course> one, List<Course> other) {
        List<Integer> rising = rising(m, one);
        int learnt = total(m, one);
        rise(m, rising, 1);
        learnt += total(m, other);
        rise(m, rising, -1);
        return learnt;
    }

    // ---- weeks

    private static int[][] weeks(Model m, List<Course> plan, int seed, int weeks) {
        int[] left = new int[plan.size()];
        int[] ended = new int[plan.size()];
        List<List<Integer>> sits = new ArrayList<>();
        for (int k = 0; k < plan.size(); k++) {
            sits.add(new ArrayList<>(plan.get(k).sits));
            ended[k] = -1;
        }
        int x = seed;
        for (int week = 1; week <= weeks; week++) {
            for (int k = 0; k < plan.size(); k++) {
                List<Integer> stay = new ArrayList<>();
                for (int who : sits.get(k)) {
                    x = x * 1103515245 + 12345;
                    int d = plan.get(k).step - m.pupils.get(who).step;
                    if ((x >>> 16) % 100 < (Math.abs(d) > 3 ? 0 : m.stay[d + 3])) {
                        stay.add(who);
                    }
                }
                sits.set(k, stay);
            }
            for (int k = 0; k < plan.size(); k++) {
                if (ended[k] < 0 && sits.get(k).size() < m.least) {
                    ended[k] = week;
                    sits.get(k).clear();
                }
            }
        }
        for (int k = 0; k < plan.size(); k++) {
            left[k] = sits.get(k).size();
        }
        return new int[][] {left, ended};
    }

    private static void compareWeeks(SchoolDoors x, Model m, List<Course> plan, Random r) {
        int seed = r.nextInt();
        int n = r.nextInt(m.weeks + 1);
        int[] left = weeks(m, plan, seed, n)[0];
        int sum = 0;
        for (int k = 0; k < plan.size(); k++) {
            sum += left[k];
            due("weeks", x.weeks(0, 0, seed, n, k), left[k]);
            due("ended", x.ended(0, 0, seed, k), weeks(m, plan, seed, m.weeks)[1][k]);
            int w = 1 + r.nextInt(8);
            int holds = 0;
            for (int i = 0; i < w; i++) {
                holds += weeks(m, plan, seed + i, m.weeks)[1][k] < 0 ? 1 : 0;
            }
            due("holds", x.holds(0, 0, seed, w, k), holds);
        }
        due("weeks of all", x.weeks(0, 0, seed, n, -1), sum);
        due("weeks beyond", x.weeks(0, 0, seed, m.weeks + 1, -1), -1);
    }

    // ---- the rest

    private static int testOf(Model m, List<Course> plan, int who) {
        Pupil p = m.pupils.get(who);
        int without = -1;
        int low = -1;
        int high = -1;
        for (Course c : plan) {
            if (can(m, c, who)) {
                int a = plainFit(m, c, p.step);
                int b = plainFit(m, c, p.step + 1);
                without = Math.max(without, (100 - p.chance) * a + p.chance * b);
                low = Math.max(low, a);
                high = Math.max(high, b);
            }
        }
        return without < 0 ? -1 : (100 - p.chance) * low + p.chance * high - without;
    }

    private static int juneOf(Model m, Course c, int who, int n) {
        List<Integer> sits = new ArrayList<>(c.sits);
        if (!sits.contains(who)) {
            sits.add(who);
        }
        int step = m.pupils.get(who).step;
        for (int i = 0; i < n; i++) {
            step += step < 11 && one(m, c, sits, who, step) >= m.rise ? 1 : 0;
        }
        return step;
    }

    private static int moreOf(Model m, Course c, int step) {
        int before = all(m, c, c.sits);
        Pupil further = new Pupil();
        further.step = step;
        m.pupils.add(further);
        List<Integer> sits = new ArrayList<>(c.sits);
        sits.add(m.pupils.size() - 1);
        int after = all(m, c, sits);
        m.pupils.remove(m.pupils.size() - 1);
        return after - before;
    }

    private static int openOf(Model m, List<Course> plan, int step) {
        int best = -1;
        int most = 0;
        for (int e = 0; e < 6; e++) {
            int evening = e;
            boolean free = false;
            for (int t = 0; t < m.teachers.size(); t++) {
                int teacher = t;
                free |= (m.teachers.get(t)[0] >> e & 1) == 1
                        && plan.stream().noneMatch(c -> c.teacher == teacher && c.evening == evening);
            }
            int come = 0;
            for (int i = 0; i < m.pupils.size(); i++) {
                Pupil p = m.pupils.get(i);
                come += atHome(plan, i) && (p.evenings >> e & 1) == 1 && p.price >= m.fee
                        && base(m, step, p.step) > 0 ? 1 : 0;
            }
            boolean room = plan.stream().filter(c -> c.evening == evening).count() < m.rooms;
            if (free && room && come >= m.least && come > most) {
                most = come;
                best = e;
            }
        }
        return best;
    }

    private static int payingFee(Model m) {
        long most = -1;
        int best = -1;
        for (int fee = 0; fee <= 999; fee++) {
            int f = fee;
            long pays = f * m.pupils.stream().filter(p -> p.price >= f).count();
            if (pays > most) {
                most = pays;
                best = fee;
            }
        }
        return best;
    }

    private static int lonely(Model m) {
        int bits = 0;
        for (int i = 0; i < m.pupils.size(); i++) {
            boolean company = false;
            for (int j = 0; j < m.pupils.size(); j++) {
                Pupil p = m.pupils.get(i);
                Pupil q = m.pupils.get(j);
                company |= i != j && Math.abs(p.step - q.step) <= 1 && (p.evenings & q.evenings) != 0;
            }
            bits |= company ? 0 : 1 << i;
        }
        return bits;
    }

    private static void compareSchool(SchoolDoors x, Model m, Random r) {
        int[] told = {m.pupils.size(), m.teachers.size(), m.easy, m.less, m.least, m.most, m.rooms, m.cost, m.fee,
            m.weeks, m.rise, m.tell, m.longer};
        for (int i = 0; i < told.length; i++) {
            due("about " + i, x.about(0, i), told[i]);
        }
        for (int t = 0; t < 7; t++) {
            due("teacher's evenings", x.about(0, 20 + t), t < m.teachers.size() ? m.teachers.get(t)[0] : -1);
            due("breadth", x.about(0, 30 + t), t < m.teachers.size() ? m.teachers.get(t)[1] : -1);
            due("gain", x.about(0, 40 + t), m.gain[t]);
            due("stay", x.about(0, 50 + t), m.stay[t]);
        }
        for (int i = 0; i < m.pupils.size(); i++) {
            Pupil p = m.pupils.get(i);
            int[] want = {p.step, p.evenings, p.price, p.partner, p.chance};
            for (int what = 0; what < 5; what++) {
                due("learner " + what, x.learner(0, i, what), want[what]);
            }
        }
        int least = m.pupils.stream().mapToInt(p -> p.price).min().orElse(-1);
        due("fills", x.fills(0, false), least);
        due("pays", x.fills(0, true), m.pupils.isEmpty() ? -1 : payingFee(m));
        due("lonely", x.lonely(0), lonely(m));
        for (int e = 0; e < 6; e++) {
            int evening = e;
            long have = m.pupils.stream().filter(p -> (p.evenings >> evening & 1) == 1).count();
            long teach = m.teachers.stream().filter(t -> (t[0] >> evening & 1) == 1).count();
            due("lacks", x.lacks(0, e), Math.max(0, have - m.most * Math.min(m.rooms, teach)));
        }
        int fee = r.nextInt(1000);
        int off = 0;
        for (int i = 0; i < m.pupils.size(); i++) {
            off |= m.pupils.get(i).price < fee ? 1 << i : 0;
        }
        due("off", x.off(0, fee), off);
        compareLine(x, m, r);
    }

    private static void compareClass(SchoolDoors x, Model m, List<Course> plan, int k, Random r) {
        Course c = plan.get(k);
        int sits = c.sits.stream().mapToInt(i -> 1 << i).sum();
        int[] told = {c.kind, c.teacher, c.evening, c.step, c.second, sits};
        for (int what = 0; what < 6; what++) {
            due("plan " + what, x.plan(0, k, what), told[what]);
        }
        due("learnt of class", x.learnt(0, 0, k, -1), all(m, c, c.sits));
        for (int i = 0; i < m.pupils.size(); i++) {
            int own = m.pupils.get(i).step;
            due("fit", x.fit(0, 0, k, i), fit(m, c, c.sits, i, own));
            due("learnt of one", x.learnt(0, 0, k, i), c.sits.contains(i) ? one(m, c, c.sits, i, own) : -1);
            int n = r.nextInt(13);
            due("june", x.june(0, 0, k, i, n), juneOf(m, c, i, n));
        }
        for (int step = 0; step < 12; step++) {
            due("more", x.more(0, 0, k, step), moreOf(m, c, step));
        }
        due("shift", x.shift(0, 0, k), stepFor(m, c, c.sits)[1]);
        int high = c.sits.stream().mapToInt(i -> m.pupils.get(i).step).max().orElse(-1);
        int low = c.sits.stream().mapToInt(i -> m.pupils.get(i).step).min().orElse(0);
        due("spread", x.spread(0, 0, k), high - low);
        compareBeside(x, m, c, k);
    }

    private static void comparePlan(SchoolDoors x, Model m, List<Course> plan, Random r) {
        due("learnt", x.learnt(0, 0, -1, -1), total(m, plan));
        int[] what = wrongOf(m, plan);
        int[] move = moveOf(m, plan);
        int[] merge = mergeOf(m, plan);
        for (int i = 0; i < 3; i++) {
            due("wrong " + i, x.wrong(0, 0, i), what[i]);
            due("move " + i, x.move(0, 0, i), move[i]);
            due("merge " + i, x.merge(0, 0, i), merge[i]);
        }
        int home = 0;
        int whom = -1;
        for (int i = 0; i < m.pupils.size(); i++) {
            home |= atHome(plan, i) ? 1 << i : 0;
            due("test", x.test(0, 0, i), testOf(m, plan, i));
            whom = testOf(m, plan, i) > (whom < 0 ? 0 : testOf(m, plan, whom)) ? i : whom;
            due("let", x.let(0, 0, i), letOf(m, plan, i));
        }
        due("home", x.home(0, 0), home);
        due("whom", x.whom(0, 0), whom);
        int taken = plan.stream().mapToInt(c -> c.sits.size()).sum();
        due("coin", x.coin(0, 0), m.fee * taken - m.cost * plan.size());
        int toll = 0;
        while (toll < 1000 && m.fee * taken - toll * plan.size() >= 0) {
            toll++;
        }
        due("toll", x.toll(0, 0), toll);
        for (int t = 0; t < m.teachers.size(); t++) {
            due("ill", x.ill(0, 0, t), illOf(m, plan, t));
            int busy = 0;
            for (int e = 0; e < 6; e++) {
                int teacher = t;
                int evening = e;
                busy += (m.teachers.get(t)[0] >> e & 1) == 1
                        && plan.stream().anyMatch(c -> c.teacher == teacher && c.evening == evening) ? 1 : 0;
            }
            due("busy", x.busy(0, 0, t), busy);
        }
        due("fewest", x.fewest(0, 0), fewest(m, plan));
        for (int step = 0; step < 12; step++) {
            due("open", x.open(0, 0, step), openOf(m, plan, step));
        }
        due("pass", x.pass(0, 0), rising(m, plan).stream().mapToInt(i -> 1 << i).sum());
        int n = 1 + r.nextInt(12);
        due("ladder", x.ladder(0, 0, n), ladder(m, plan, n));
    }

    private static void compareNext(SchoolDoors x, Model m, List<Course> plan) {
        due("next", x.next(0, 0, x.count(0) == 1 ? -1 : 1), 1);
        List<Integer> rising = rising(m, plan);
        for (int i = 0; i < m.pupils.size(); i++) {
            Pupil p = m.pupils.get(i);
            due("next step", x.learner(1, i, 0), p.step + (rising.contains(i) ? 1 : 0));
            due("next partner", x.learner(1, i, 3), p.partner);
            due("next chance", x.learner(1, i, 4), p.chance);
        }
        for (int what = 0; what < 60; what++) {
            due("next about", x.about(1, what), x.about(0, what));
        }
    }

    // ---- schools and plans by seeds

    private static int among(Random r, int low, int high) {
        return low + r.nextInt(high - low + 1);
    }

    private static Model school(Random r, StringBuilder text) {
        Model m = new Model();
        int n = r.nextInt(4) == 0 ? among(r, 9, 16) : among(r, 0, 8);
        int around = r.nextInt(12);
        int width = 1 + r.nextInt(5);
        int busy = r.nextBoolean() ? 63 : 7;
        for (int i = 0; i < n; i++) {
            Pupil p = new Pupil();
            p.step = Math.max(0, Math.min(11, around + r.nextInt(2 * width + 1) - width));
            p.evenings = (r.nextInt(busy) | r.nextInt(busy)) + 1;
            p.evenings = Math.min(63, p.evenings);
            p.price = r.nextInt(6) * 20;
            m.pupils.add(p);
            text.append("learner ").append(p.step).append(' ').append(p.evenings).append(' ').append(p.price)
                    .append(";");
        }
        int teachers = among(r, 0, 5);
        for (int t = 0; t < teachers; t++) {
            int[] teacher = {among(r, 1, 63), among(r, 0, 3)};
            m.teachers.add(teacher);
            text.append("teacher ").append(teacher[0]).append(' ').append(teacher[1]).append(";");
        }
        for (int i = 0; i < 5 && n > 1; i++) {
            couple(r, m, text);
        }
        for (int i = 0; i < 3 && n > 0; i++) {
            int who = r.nextInt(n);
            m.pupils.get(who).chance = r.nextInt(101);
            text.append("perhaps ").append(who).append(' ').append(m.pupils.get(who).chance).append(";");
        }
        table(r, m, text);
        rules(r, m, text);
        return m;
    }

    private static void couple(Random r, Model m, StringBuilder text) {
        int one = r.nextInt(m.pupils.size());
        int other = r.nextInt(m.pupils.size());
        if (one == other || r.nextBoolean()) {
            return;
        }
        for (Pupil p : m.pupils) {
            if (p.partner == one || p.partner == other) {
                p.partner = -1;
            }
        }
        m.pupils.get(one).partner = other;
        m.pupils.get(other).partner = one;
        text.append("couple ").append(one).append(' ').append(other).append(";");
    }

    private static void table(Random r, Model m, StringBuilder text) {
        for (int d = -3; d <= 3; d++) {
            if (r.nextInt(5) > 0) {
                m.gain[d + 3] = r.nextBoolean() ? r.nextInt(100) : r.nextInt(4) * 30;
                m.stay[d + 3] = among(r, r.nextBoolean() ? 90 : 40, 100);
                text.append(d < 0 ? "below " : "above ").append(Math.abs(d)).append(' ').append(m.gain[d + 3])
                        .append(' ').append(m.stay[d + 3]).append(";");
            }
        }
    }

    private static void rules(Random r, Model m, StringBuilder text) {
        m.least = among(r, 1, 3);
        m.most = among(r, m.least, r.nextBoolean() ? 15 : 5);
        text.append("size ").append(m.least).append(' ').append(m.most).append(";");
        if (r.nextBoolean()) {
            m.easy = among(r, 1, 4);
            m.less = among(r, 0, 20);
            text.append("crowd ").append(m.easy).append(' ').append(m.less).append(";");
        }
        if (r.nextBoolean()) {
            text.append("rooms ").append(m.rooms = among(r, 1, 3)).append(";");
        }
        if (r.nextBoolean()) {
            text.append("cost ").append(m.cost = among(r, 0, 150)).append(";");
        }
        if (r.nextBoolean()) {
            text.append("fee ").append(m.fee = among(r, 0, 60)).append(";");
        }
        if (r.nextBoolean()) {
            text.append("weeks ").append(m.weeks = among(r, 1, 30)).append(";");
        }
        if (r.nextBoolean()) {
            text.append("rise ").append(m.rise = among(r, 0, 99)).append(";");
        }
        if (r.nextInt(4) > 0) {
            text.append("tell ").append(m.tell = among(r, 0, 99)).append(";");
        }
        if (r.nextBoolean()) {
            text.append("long ").append(m.longer = among(r, 0, 200)).append(";");
        }
    }

    private static List<Course> plan(Random r, Model m, StringBuilder text) {
        String[] words = {"even ", "two ", "broad ", "long ", "pairs "};
        List<Course> plan = new ArrayList<>();
        int n = m.teachers.isEmpty() ? 0 : m.pupils.size() <= 8 && r.nextBoolean() ? r.nextInt(4) : r.nextInt(7);
        int seat = 1 + r.nextInt(n + 1);
        for (int k = 0; k < n; k++) {
            Course c = new Course();
            c.kind = r.nextInt(5);
            c.teacher = r.nextInt(m.teachers.size());
            c.evening = r.nextInt(r.nextBoolean() ? 6 : 3);
            c.step = m.pupils.isEmpty() ? r.nextInt(12)
                    : Math.max(0, Math.min(11, m.pupils.get(r.nextInt(m.pupils.size())).step + r.nextInt(5) - 2));
            text.append(words[c.kind]).append(c.teacher).append(' ').append(c.evening).append(' ').append(c.step);
            if (c.kind == 1) {
                text.append(' ').append(c.second = r.nextInt(12));
            }
            text.append(";");
            StringBuilder sits = new StringBuilder();
            for (int i = 0; i < m.pupils.size(); i++) {
                if (r.nextInt(seat) == 0) {
                    c.sits.add(i);
                    sits.append(' ').append(i);
                }
            }
            text.append(sits.length() == 0 ? "" : "sits" + sits + ";\n");
            plan.add(c);
        }
        return plan;
    }

    private static void compare(int seed) {
        Random r = new Random(seed * 0x9E3779B97F4A7C15L);
        StringBuilder text = new StringBuilder();
        Model m = school(r, text);
        StringBuilder planText = new StringBuilder();
        List<Course> plan = plan(r, m, planText);
        StringBuilder otherText = new StringBuilder();
        List<Course> other = plan(r, m, otherText);
        if (text.length() > 600 || planText.length() > 600 || otherText.length() > 600) {
            return;
        }
        sizes[m.pupils.size()]++;
        boolean fresh = r.nextInt(3) == 0;
        used = fresh ? new SchoolDoors() : used;
        SchoolDoors x = used;
        boolean first = x.count(0) == 0;
        feed(x, text.toString());
        due("school", x.text(0, first ? -1 : 0), 0);
        feed(x, planText.toString());
        due("plan", x.text(1, first ? -1 : 0), 0);
        feed(x, otherText.toString());
        due("other plan", x.text(1, first ? -1 : 1), 1);
        due("goes", x.goes(0, 0) ? 1 : 0, 1);
        due("classes", x.plan(0, -1, 0), plan.size());
        compareSchool(x, m, r);
        comparePlan(x, m, plan, r);
        for (int k = 0; k < plan.size(); k++) {
            compareClass(x, m, plan, k, r);
        }
        compareSeats(x, m, plan);
        compareWeeks(x, m, plan, r);
        int ahead = inTwoYears(m, plan, other);
        int behind = inTwoYears(m, other, plan);
        due("order", x.order(0, 0, 1), ahead > behind ? 0 : ahead < behind ? 1 : 2);
        compareNext(x, m, plan);
    }

    public static void main(String[] args) {
        int runs = args.length > 0 ? Integer.parseInt(args[0]) : 600;
        for (int seed = 1; seed <= runs; seed++) {
            int before = wrong;
            compare(seed);
            if (wrong > before && wrong < 40) {
                System.out.println("  (seed " + seed + ")");
            }
        }
        for (int n = 0; n <= 16; n++) {
            due("schools of " + n + " learners", sizes[n] > 0 ? 1 : 0, 1);
        }
        System.out.println(compared + " answers compared, " + wrong + " are not as due");
        if (wrong != 0) {
            System.exit(1);
        }
    }
}
