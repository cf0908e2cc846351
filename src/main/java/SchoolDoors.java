/** Which classes a school opens: schools and plans told as texts, and what follows from them. */
public final class SchoolDoors {
    public static final int NONE = -1;

    private static final int NO_SUCH = -2;
    private static final int NO_SUM = -1000000;
    private static final int IMPOSSIBLE = -1000000000;

    private static final int TAPE = 600;
    private static final int FEED = 20;
    private static final int KEPT = 3;
    private static final int LEARNERS = 16;
    /** One place more than LEARNERS, for the further learner of more(). */
    private static final int PLACES = 17;
    private static final int TEACHERS = 5;
    private static final int CLASSES = 6;
    private static final int EVENINGS = 6;
    private static final int STEPS = 12;
    private static final int TOP_STEP = 11;
    private static final int REACH = 3;
    private static final int TABLE = 7;
    private static final int YEARS = 12;
    private static final int DEAREST = 999;
    private static final int SHARED = 8;
    private static final int SHARED_CLASSES = 3;
    private static final int MOVED = 6;
    private static final int BENCHED = 12;
    private static final int SEEDS = 8;

    private static final int KIND_EVEN = 0;
    private static final int KIND_TWO = 1;
    private static final int KIND_BROAD = 2;
    private static final int KIND_LONG = 3;
    private static final int KIND_PAIRS = 4;

    private static final int EASY = 0;
    private static final int LESS = 1;
    private static final int LEAST = 2;
    private static final int MOST = 3;
    private static final int ROOMS = 4;
    private static final int COST = 5;
    private static final int FEE = 6;
    private static final int WEEKS = 7;
    private static final int RISE = 8;
    private static final int TELL = 9;
    private static final int LONG = 10;
    private static final int RULES = 11;
    private static final int[] FIRST_RULES = {15, 0, 1, 15, 9, 0, 0, 10, 50, 0, 100};

    private final State now = new State();
    /** Null where no image has been made yet. */
    private final State[] images = new State[KEPT];
    private final Reader reader = new Reader();
    /** A school that is told nowhere: next year's, or one with a further learner. */
    private final School spare = new School();
    private final Lesson trial = new Lesson();
    private final Line cuts = new Line();
    private final Sharing sharing = new Sharing();
    private final Benches benches = new Benches();
    private final Term term = new Term();
    private final int[] found = new int[3];
    /** By learners, for fewest(): the classes (bits) where he can sit. */
    private final int[] where = new int[LEARNERS];

    public SchoolDoors() {
    }

    public int feed(int a, int b, int c, int d, int e) {
        if (now.tapeLength + FEED > TAPE) {
            return NONE;
        }
        now.write(a);
        now.write(b);
        now.write(c);
        now.write(d);
        now.write(e);
        return now.tapeLength;
    }

    public int end(int n) {
        if (n < 0 || n > now.tapeLength) {
            return NONE;
        }
        now.tapeLength = n;
        return n;
    }

    public int text(int sort, int at) {
        int number = sort == 0 ? placeFor(at, now.schoolCount)
                : sort == 1 ? placeFor(at, now.planCount) : NONE;
        now.fault = 0;
        now.place = NONE;
        int length = now.tapeLength;
        now.tapeLength = 0;
        if (number == NONE) {
            return NO_SUCH;
        }
        reader.read(now.tape, length, sort == 0);
        if (reader.fault != 0) {
            now.fault = reader.fault;
            now.place = reader.place;
            return NONE;
        }
        if (sort == 0) {
            now.putSchool(number, reader.school);
        } else {
            now.putPlan(number, reader.plan);
        }
        return number;
    }

    public int fault(int what) {
        return what == 0 ? now.fault : what == 1 ? now.place : NONE;
    }

    public int about(int school, int what) {
        School s = now.schoolAt(school);
        return s == null ? NONE : s.told(what);
    }

    public int learner(int school, int learner, int what) {
        School s = now.schoolAt(school);
        if (s == null || !s.has(learner)) {
            return NO_SUCH;
        }
        switch (what) {
            case 0: return s.steps[learner];
            case 1: return s.evenings[learner];
            case 2: return s.prices[learner];
            case 3: return s.partners[learner];
            case 4: return s.chances[learner];
            default: return NO_SUCH;
        }
    }

    public int plan(int plan, int k, int what) {
        Plan p = now.planAt(plan);
        if (p != null && k == NONE && what == 0) {
            return p.size;
        }
        Lesson c = lessonOf(p, k);
        if (c == null) {
            return NO_SUCH;
        }
        switch (what) {
            case 0: return c.kind;
            case 1: return c.teacher;
            case 2: return c.evening;
            case 3: return c.step;
            case 4: return c.second;
            case 5: return c.sits;
            default: return NO_SUCH;
        }
    }

    public boolean goes(int school, int plan) {
        return going(school, plan) != null;
    }

    public boolean sit(int plan, int k, int learner, boolean sits) {
        Lesson c = lessonOf(now.planAt(plan), k);
        if (c == null || learner < 0 || learner >= LEARNERS || c.has(learner) == sits) {
            return false;
        }
        c.sits ^= 1 << learner;
        return true;
    }

    public int fit(int school, int plan, int k, int learner) {
        Plan p = going(school, plan);
        School s = now.schoolAt(school);
        Lesson c = lessonOf(p, k);
        if (s == null || c == null || !s.has(learner)) {
            return NONE;
        }
        return s.fitting(c, s.steps[learner], s.stepsOf(c.sits));
    }

    public int learnt(int school, int plan, int k, int learner) {
        Plan p = going(school, plan);
        School s = now.schoolAt(school);
        if (p == null || s == null) {
            return NONE;
        }
        if (k == NONE && learner == NONE) {
            return s.inAll(p);
        }
        Lesson c = lessonOf(p, k);
        if (c == null) {
            return NONE;
        }
        if (learner == NONE) {
            return s.together(c, c.sits);
        }
        return s.has(learner) && c.has(learner) ? s.byOne(c, learner) : NONE;
    }

    public int wrong(int school, int plan, int what) {
        Plan p = going(school, plan);
        School s = now.schoolAt(school);
        if (p == null || s == null || what < 0 || what > 2) {
            return NONE;
        }
        if (findWrong(s, p)) {
            return found[what];
        }
        return what == 0 ? 0 : NONE;
    }

    public int home(int school, int plan) {
        Plan p = going(school, plan);
        School s = now.schoolAt(school);
        return p == null || s == null ? NONE : s.all() & ~p.seated();
    }

    public int coin(int school, int plan) {
        Plan p = going(school, plan);
        School s = now.schoolAt(school);
        if (p == null || s == null) {
            return NO_SUM;
        }
        return s.rules[FEE] * p.taken() - s.rules[COST] * p.size;
    }

    public int line(int school, int k, int what) {
        School s = now.schoolAt(school);
        if (s == null || k < 1 || k > CLASSES) {
            return NONE;
        }
        cuts.weigh(s);
        return cuts.cut(s, k) ? cuts.told(what) : NONE;
    }

    public int seats(int school, int plan, int what) {
        Plan p = going(school, plan);
        School s = now.schoolAt(school);
        if (p == null || s == null || s.learners > SHARED || p.size > SHARED_CLASSES) {
            return NO_SUCH;
        }
        if (what != 0 && (what < 10 || what >= 10 + s.learners)) {
            return NO_SUCH;
        }
        sharing.seatAll(s, p);
        if (what == 0) {
            return sharing.most();
        }
        int digit = sharing.classOf(what - 10);
        return digit < p.size ? digit : NONE;
    }

    public int fewest(int school, int plan) {
        Plan p = going(school, plan);
        School s = now.schoolAt(school);
        return p == null || s == null ? NONE : fewestOf(s, p);
    }

    public int test(int school, int plan, int learner) {
        Plan p = going(school, plan);
        School s = now.schoolAt(school);
        return p == null || s == null || !s.has(learner) ? NONE : testOf(s, p, learner);
    }

    public int whom(int school, int plan) {
        Plan p = going(school, plan);
        School s = now.schoolAt(school);
        if (p == null || s == null) {
            return NONE;
        }
        int best = 0;
        int whom = NONE;
        for (int i = 0; i < s.learners; i++) {
            int worth = testOf(s, p, i);
            if (worth > best) {
                best = worth;
                whom = i;
            }
        }
        return whom;
    }

    public int move(int school, int plan, int what) {
        Plan p = going(school, plan);
        School s = now.schoolAt(school);
        if (p == null || s == null || what < 0 || what > 2 || !findMove(s, p)) {
            return NONE;
        }
        return found[what];
    }

    public int ill(int school, int plan, int teacher) {
        Plan p = going(school, plan);
        School s = now.schoolAt(school);
        if (p == null || s == null || !s.hasTeacher(teacher)) {
            return NONE;
        }
        int stay = p.seatedWithout(teacher);
        int moved = p.seated() & ~stay;
        if (Integer.bitCount(moved) > MOVED) {
            return NONE;
        }
        return sharing.withoutTeacher(s, p, teacher, moved);
    }

    public int fills(int school, boolean pays) {
        School s = now.schoolAt(school);
        if (s == null || s.learners == 0) {
            return NONE;
        }
        return pays ? s.payingFee() : s.leastPrice();
    }

    public int next(int school, int plan, int at) {
        Plan p = going(school, plan);
        School s = now.schoolAt(school);
        int number = placeFor(at, now.schoolCount);
        if (p == null || s == null || number == NONE) {
            return NONE;
        }
        spare.copyFrom(s);
        spare.rise(s.rising(p));
        now.putSchool(number, spare);
        return number;
    }

    public int ladder(int school, int plan, int n) {
        Plan p = going(school, plan);
        School s = now.schoolAt(school);
        if (p == null || s == null || n < 1 || n > YEARS) {
            return NONE;
        }
        spare.copyFrom(s);
        for (int year = 1; year < n; year++) {
            spare.rise(spare.rising(p));
        }
        return spare.inAll(p);
    }

    public int beside(int school, int plan, int k, int learner) {
        Plan p = going(school, plan);
        School s = now.schoolAt(school);
        Lesson c = lessonOf(p, k);
        if (s == null || c == null || Integer.bitCount(c.sits) > BENCHED) {
            return NO_SUCH;
        }
        if (learner != NONE && (!s.has(learner) || !c.has(learner))) {
            return NO_SUCH;
        }
        int most = benches.seat(s, c.sits);
        return learner == NONE ? most : benches.neighbourOf(learner);
    }

    public int weeks(int school, int plan, int seed, int weeks, int k) {
        Plan p = going(school, plan);
        School s = now.schoolAt(school);
        if (p == null || s == null || weeks < 0 || weeks > s.rules[WEEKS]) {
            return NONE;
        }
        if (k != NONE && lessonOf(p, k) == null) {
            return NONE;
        }
        term.run(s, p, seed, weeks);
        return k == NONE ? term.stillInAll(p.size) : term.stillIn(k);
    }

    public int ended(int school, int plan, int seed, int k) {
        Plan p = going(school, plan);
        School s = now.schoolAt(school);
        if (p == null || s == null || lessonOf(p, k) == null) {
            return NONE;
        }
        term.run(s, p, seed, s.rules[WEEKS]);
        return term.endOf(k);
    }

    public int lacks(int school, int evening) {
        School s = now.schoolAt(school);
        if (s == null || evening < 0 || evening >= EVENINGS) {
            return NONE;
        }
        int classes = Math.min(s.rules[ROOMS], s.teachersOn(evening));
        return Math.max(0, s.learnersOn(evening) - s.rules[MOST] * classes);
    }

    public int more(int school, int plan, int k, int step) {
        Plan p = going(school, plan);
        School s = now.schoolAt(school);
        Lesson c = lessonOf(p, k);
        if (s == null || c == null || step < 0 || step > TOP_STEP) {
            return NO_SUM;
        }
        spare.copyFrom(s);
        int further = s.learners;
        spare.steps[further] = step;
        return spare.together(c, c.sits | 1 << further) - s.together(c, c.sits);
    }

    public int lonely(int school) {
        School s = now.schoolAt(school);
        if (s == null) {
            return NONE;
        }
        int lonely = 0;
        for (int i = 0; i < s.learners; i++) {
            if (!s.hasCompany(i)) {
                lonely |= 1 << i;
            }
        }
        return lonely;
    }

    public int shift(int school, int plan, int k) {
        Plan p = going(school, plan);
        School s = now.schoolAt(school);
        Lesson c = lessonOf(p, k);
        if (s == null || c == null) {
            return NONE;
        }
        trial.copyFrom(c);
        s.settle(trial, trial.sits);
        return trial.step;
    }

    public int order(int school, int one, int other) {
        Plan p = going(school, one);
        Plan q = going(school, other);
        School s = now.schoolAt(school);
        if (p == null || q == null || s == null) {
            return NONE;
        }
        int ahead = inTwoYears(s, p, q);
        int behind = inTwoYears(s, q, p);
        return ahead > behind ? 0 : ahead < behind ? 1 : 2;
    }

    public int let(int school, int plan, int learner) {
        Plan p = going(school, plan);
        School s = now.schoolAt(school);
        if (p == null || s == null || !s.has(learner) || (p.seated() >> learner & 1) != 0) {
            return NONE;
        }
        int best = IMPOSSIBLE;
        int where = NONE;
        for (int k = 0; k < p.size; k++) {
            Lesson c = p.lessons[k];
            if (!s.takesOneMore(c, learner)) {
                continue;
            }
            int grows = s.together(c, c.sits | 1 << learner) - s.together(c, c.sits);
            if (grows > best) {
                best = grows;
                where = k;
            }
        }
        return where;
    }

    public int june(int school, int plan, int k, int learner, int n) {
        Plan p = going(school, plan);
        School s = now.schoolAt(school);
        Lesson c = lessonOf(p, k);
        if (s == null || c == null || !s.has(learner) || n < 0 || n > YEARS) {
            return NONE;
        }
        int others = c.sits & ~(1 << learner);
        int near = s.stepsOf(others);
        int part = s.part(Integer.bitCount(others) + 1);
        int step = s.steps[learner];
        for (int year = 0; year < n; year++) {
            if (s.fitting(c, step, near) * part / 100 >= s.rules[RISE]) {
                step = Math.min(step + 1, TOP_STEP);
            }
        }
        return step;
    }

    public int merge(int school, int plan, int what) {
        Plan p = going(school, plan);
        School s = now.schoolAt(school);
        if (p == null || s == null || what < 0 || what > 2 || !findMerge(s, p)) {
            return NO_SUM;
        }
        return found[what];
    }

    public int open(int school, int plan, int step) {
        Plan p = going(school, plan);
        School s = now.schoolAt(school);
        if (p == null || s == null || step < 0 || step > TOP_STEP) {
            return NONE;
        }
        int most = NONE;
        int best = NONE;
        for (int evening = 0; evening < EVENINGS; evening++) {
            int come = comersOn(s, p, evening, step);
            if (come >= s.rules[LEAST] && come > most && canOpenOn(s, p, evening)) {
                most = come;
                best = evening;
            }
        }
        return best;
    }

    public int off(int school, int fee) {
        School s = now.schoolAt(school);
        if (s == null || fee < 0 || fee > DEAREST) {
            return NONE;
        }
        int off = 0;
        for (int i = 0; i < s.learners; i++) {
            if (s.prices[i] < fee) {
                off |= 1 << i;
            }
        }
        return off;
    }

    public int holds(int school, int plan, int seed, int w, int k) {
        Plan p = going(school, plan);
        School s = now.schoolAt(school);
        if (p == null || s == null || lessonOf(p, k) == null || w < 1 || w > SEEDS) {
            return NONE;
        }
        int holds = 0;
        for (int i = 0; i < w; i++) {
            term.run(s, p, seed + i, s.rules[WEEKS]);
            if (term.endOf(k) == NONE) {
                holds++;
            }
        }
        return holds;
    }

    public int spread(int school, int plan, int k) {
        Plan p = going(school, plan);
        School s = now.schoolAt(school);
        Lesson c = lessonOf(p, k);
        if (s == null || c == null || c.sits == 0) {
            return NONE;
        }
        int steps = s.stepsOf(c.sits);
        int least = Integer.numberOfTrailingZeros(steps);
        int greatest = 31 - Integer.numberOfLeadingZeros(steps);
        return greatest - least;
    }

    public int toll(int school, int plan) {
        Plan p = going(school, plan);
        School s = now.schoolAt(school);
        if (p == null || s == null) {
            return NONE;
        }
        if (p.size == 0) {
            return DEAREST + 1;
        }
        return Math.min(DEAREST + 1, s.rules[FEE] * p.taken() / p.size + 1);
    }

    public int busy(int school, int plan, int teacher) {
        Plan p = going(school, plan);
        School s = now.schoolAt(school);
        if (p == null || s == null || !s.hasTeacher(teacher)) {
            return NONE;
        }
        return Integer.bitCount(p.eveningsOf(teacher) & s.teacherEvenings[teacher]);
    }

    public int pass(int school, int plan) {
        Plan p = going(school, plan);
        School s = now.schoolAt(school);
        return p == null || s == null ? NONE : s.rising(p);
    }

    public int count(int what) {
        return what == 0 ? now.schoolCount : what == 1 ? now.planCount : NO_SUCH;
    }

    public boolean image(int k) {
        if (k < 0 || k >= KEPT) {
            return false;
        }
        if (images[k] == null) {
            images[k] = new State();
        }
        images[k].copyFrom(now);
        return true;
    }

    public boolean again(int k) {
        if (k < 0 || k >= KEPT || images[k] == null) {
            return false;
        }
        now.copyFrom(images[k]);
        return true;
    }

    /** The place for a further one (at NONE) or of one that is there; NONE if there is no such place. */
    private static int placeFor(int at, int count) {
        if (at == NONE) {
            return count < KEPT ? count : NONE;
        }
        return at >= 0 && at < count ? at : NONE;
    }

    /** The plan, if it goes in the school; null if not. */
    private Plan going(int school, int plan) {
        School s = now.schoolAt(school);
        Plan p = now.planAt(plan);
        return s != null && p != null && p.goesIn(s) ? p : null;
    }

    private static Lesson lessonOf(Plan p, int k) {
        return p != null && k >= 0 && k < p.size ? p.lessons[k] : null;
    }

    private int inTwoYears(School s, Plan first, Plan then) {
        spare.copyFrom(s);
        spare.rise(s.rising(first));
        return s.inAll(first) + spare.inAll(then);
    }

    private boolean find(int a, int b, int c) {
        found[0] = a;
        found[1] = b;
        found[2] = c;
        return true;
    }

    private boolean findWrong(School s, Plan p) {
        int ahead = 0;
        for (int k = 0; k < p.size; k++) {
            Lesson c = p.lessons[k];
            int which = wrongOfClass(s, p, k);
            if (which != 0) {
                return find(which, k, NONE);
            }
            for (int i = 0; i < s.learners; i++) {
                which = c.has(i) ? wrongOfLearner(s, c, ahead, i) : 0;
                if (which != 0) {
                    return find(which, k, i);
                }
            }
            ahead |= c.sits;
        }
        return false;
    }

    private static int wrongOfClass(School s, Plan p, int k) {
        Lesson c = p.lessons[k];
        if (!s.teaches(c.teacher, c.evening)) {
            return 1;
        }
        int ahead = 0;
        for (int j = 0; j < k; j++) {
            Lesson other = p.lessons[j];
            if (other.evening == c.evening && other.teacher == c.teacher) {
                return 2;
            }
            ahead += other.evening == c.evening ? 1 : 0;
        }
        if (ahead >= s.rules[ROOMS]) {
            return 3;
        }
        int n = Integer.bitCount(c.sits);
        return n < s.rules[LEAST] ? 4 : n > s.rules[MOST] ? 5 : 0;
    }

    private static int wrongOfLearner(School s, Lesson c, int ahead, int learner) {
        if ((s.evenings[learner] >> c.evening & 1) == 0) {
            return 6;
        }
        if ((ahead >> learner & 1) != 0) {
            return 7;
        }
        if (s.prices[learner] < s.rules[FEE]) {
            return 8;
        }
        int partner = s.partners[learner];
        return partner != NONE && !c.has(partner) ? 9 : 0;
    }

    private int fewestOf(School s, Plan p) {
        for (int i = 0; i < s.learners; i++) {
            where[i] = s.whereCan(p, i);
        }
        int best = NONE;
        for (int set = 0; set < 1 << p.size; set++) {
            boolean fewer = best == NONE || Integer.bitCount(set) < Integer.bitCount(best);
            if (fewer && allCanSit(s, set)) {
                best = set;
            }
        }
        return best;
    }

    /**
     * Whether all learners have seats in the set's classes, each class from LEAST to MOST. By Hall's
     * condition from both sides; seats for all within MOST and LEAST in each class, if both can be
     * had apart, can be had together.
     */
    private boolean allCanSit(School s, int set) {
        for (int part = set; part >= 0; part = part == 0 ? NONE : part - 1 & set) {
            int bound = 0;
            int able = 0;
            for (int i = 0; i < s.learners; i++) {
                bound += (where[i] & set & ~part) == 0 ? 1 : 0;
                able += (where[i] & part) != 0 ? 1 : 0;
            }
            int classes = Integer.bitCount(part);
            if (bound > s.rules[MOST] * classes || able < s.rules[LEAST] * classes) {
                return false;
            }
        }
        return true;
    }

    private static int testOf(School s, Plan p, int learner) {
        int chance = s.chances[learner];
        int step = s.steps[learner];
        int without = NONE;
        int low = 0;
        int high = 0;
        for (int k = 0; k < p.size; k++) {
            Lesson c = p.lessons[k];
            if (s.can(c, learner)) {
                int own = s.alone(c, step);
                int higher = s.alone(c, step + 1);
                without = Math.max(without, (100 - chance) * own + chance * higher);
                low = Math.max(low, own);
                high = Math.max(high, higher);
            }
        }
        return without == NONE ? NONE : (100 - chance) * low + chance * high - without;
    }

    private boolean findMove(School s, Plan p) {
        int best = 0;
        for (int i = 0; i < s.learners; i++) {
            int from = p.onlyClassOf(i);
            for (int to = 0; from != NONE && to < p.size; to++) {
                int grows = to == from ? 0 : moveGrows(s, p.lessons[from], p.lessons[to], i);
                if (grows > best) {
                    best = grows;
                    find(i, to, grows);
                }
            }
        }
        return best > 0;
    }

    private static int moveGrows(School s, Lesson from, Lesson to, int learner) {
        int left = from.sits & ~(1 << learner);
        if (!s.takesOneMore(to, learner) || (left != 0 && Integer.bitCount(left) < s.rules[LEAST])) {
            return 0;
        }
        return s.together(from, left) - s.together(from, from.sits)
                + s.together(to, to.sits | 1 << learner) - s.together(to, to.sits);
    }

    private boolean findMerge(School s, Plan p) {
        int best = IMPOSSIBLE;
        for (int i = 0; i < p.size; i++) {
            Lesson first = p.lessons[i];
            for (int j = i + 1; j < p.size; j++) {
                Lesson second = p.lessons[j];
                int sits = first.sits | second.sits;
                if (first.evening != second.evening || Integer.bitCount(sits) > s.rules[MOST]) {
                    continue;
                }
                int grows = s.together(first, sits) - s.together(first, first.sits)
                        - s.together(second, second.sits);
                if (grows > best) {
                    best = grows;
                    find(i, j, grows);
                }
            }
        }
        return best != IMPOSSIBLE;
    }

    /** How many at home would come to a class of the step on the evening. */
    private static int comersOn(School s, Plan p, int evening, int step) {
        int home = s.all() & ~p.seated();
        int come = 0;
        for (int i = 0; i < s.learners; i++) {
            boolean free = (home >> i & 1) != 0 && (s.evenings[i] >> evening & 1) != 0;
            if (free && s.prices[i] >= s.rules[FEE] && s.base(step, s.steps[i]) > 0) {
                come++;
            }
        }
        return come;
    }

    private static boolean canOpenOn(School s, Plan p, int evening) {
        if (p.classesOn(evening) >= s.rules[ROOMS]) {
            return false;
        }
        for (int t = 0; t < s.teachers; t++) {
            if (s.teaches(t, evening) && (p.eveningsOf(t) >> evening & 1) == 0) {
                return true;
            }
        }
        return false;
    }

    /** All that is told: what an image holds. */
    private static final class State {
        final byte[] tape = new byte[TAPE];
        int tapeLength = 0;
        int fault = 0;
        int place = NONE;
        final School[] schools = new School[KEPT];
        int schoolCount = 0;
        final Plan[] plans = new Plan[KEPT];
        int planCount = 0;

        State() {
            for (int i = 0; i < KEPT; i++) {
                schools[i] = new School();
                plans[i] = new Plan();
            }
        }

        void copyFrom(State other) {
            System.arraycopy(other.tape, 0, tape, 0, TAPE);
            tapeLength = other.tapeLength;
            fault = other.fault;
            place = other.place;
            schoolCount = other.schoolCount;
            planCount = other.planCount;
            for (int i = 0; i < KEPT; i++) {
                schools[i].copyFrom(other.schools[i]);
                plans[i].copyFrom(other.plans[i]);
            }
        }

        void write(int four) {
            for (int shift = 24; shift >= 0 && tapeLength < TAPE; shift -= 8) {
                tape[tapeLength] = (byte) (four >> shift);
                tapeLength++;
            }
        }

        School schoolAt(int i) {
            return i >= 0 && i < schoolCount ? schools[i] : null;
        }

        Plan planAt(int i) {
            return i >= 0 && i < planCount ? plans[i] : null;
        }

        void putSchool(int i, School school) {
            if (i >= 0 && i < KEPT) {
                schools[i].copyFrom(school);
                schoolCount = Math.max(schoolCount, i + 1);
            }
        }

        void putPlan(int i, Plan plan) {
            if (i >= 0 && i < KEPT) {
                plans[i].copyFrom(plan);
                planCount = Math.max(planCount, i + 1);
            }
        }
    }

    /** One class of a plan. */
    private static final class Lesson {
        int kind = KIND_EVEN;
        int teacher = 0;
        int evening = 0;
        int step = 0;
        int second = NONE;
        int sits = 0;

        void copyFrom(Lesson other) {
            kind = other.kind;
            teacher = other.teacher;
            evening = other.evening;
            step = other.step;
            second = other.second;
            sits = other.sits;
        }

        boolean has(int learner) {
            return (sits >> learner & 1) != 0;
        }
    }

    private static final class Plan {
        int size = 0;
        final Lesson[] lessons = new Lesson[CLASSES];

        Plan() {
            for (int k = 0; k < CLASSES; k++) {
                lessons[k] = new Lesson();
            }
        }

        void copyFrom(Plan other) {
            size = other.size;
            for (int k = 0; k < CLASSES; k++) {
                lessons[k].copyFrom(other.lessons[k]);
            }
        }

        boolean goesIn(School s) {
            for (int k = 0; k < size; k++) {
                Lesson c = lessons[k];
                if (!s.hasTeacher(c.teacher) || (c.sits & ~s.all()) != 0) {
                    return false;
                }
            }
            return true;
        }

        int seated() {
            return seatedWithout(NONE);
        }

        /** Who sits in a class of another teacher. */
        int seatedWithout(int teacher) {
            int sits = 0;
            for (int k = 0; k < size; k++) {
                if (lessons[k].teacher != teacher) {
                    sits |= lessons[k].sits;
                }
            }
            return sits;
        }

        int taken() {
            int seats = 0;
            for (int k = 0; k < size; k++) {
                seats += Integer.bitCount(lessons[k].sits);
            }
            return seats;
        }

        /** The class where he sits, if it is just one; NONE if not. */
        int onlyClassOf(int learner) {
            int only = NONE;
            for (int k = 0; k < size; k++) {
                if (lessons[k].has(learner)) {
                    if (only != NONE) {
                        return NONE;
                    }
                    only = k;
                }
            }
            return only;
        }

        int classesOn(int evening) {
            int n = 0;
            for (int k = 0; k < size; k++) {
                n += lessons[k].evening == evening ? 1 : 0;
            }
            return n;
        }

        int eveningsOf(int teacher) {
            int evenings = 0;
            for (int k = 0; k < size; k++) {
                if (lessons[k].teacher == teacher) {
                    evenings |= 1 << lessons[k].evening;
                }
            }
            return evenings;
        }
    }

    private static final class School {
        int learners = 0;
        final int[] steps = new int[PLACES];
        final int[] evenings = new int[LEARNERS];
        final int[] prices = new int[LEARNERS];
        final int[] partners = new int[LEARNERS];
        final int[] chances = new int[LEARNERS];
        int teachers = 0;
        final int[] teacherEvenings = new int[TEACHERS];
        final int[] breadths = new int[TEACHERS];
        final int[] gains = new int[TABLE];
        final int[] stays = new int[TABLE];
        final int[] rules = new int[RULES];

        void clear() {
            learners = 0;
            teachers = 0;
            for (int d = 0; d < TABLE; d++) {
                gains[d] = 0;
                stays[d] = 100;
            }
            System.arraycopy(FIRST_RULES, 0, rules, 0, RULES);
        }

        void copyFrom(School other) {
            learners = other.learners;
            System.arraycopy(other.steps, 0, steps, 0, PLACES);
            System.arraycopy(other.evenings, 0, evenings, 0, LEARNERS);
            System.arraycopy(other.prices, 0, prices, 0, LEARNERS);
            System.arraycopy(other.partners, 0, partners, 0, LEARNERS);
            System.arraycopy(other.chances, 0, chances, 0, LEARNERS);
            teachers = other.teachers;
            System.arraycopy(other.teacherEvenings, 0, teacherEvenings, 0, TEACHERS);
            System.arraycopy(other.breadths, 0, breadths, 0, TEACHERS);
            System.arraycopy(other.gains, 0, gains, 0, TABLE);
            System.arraycopy(other.stays, 0, stays, 0, TABLE);
            System.arraycopy(other.rules, 0, rules, 0, RULES);
        }

        void addLearner(int step, int free, int price) {
            if (learners < LEARNERS) {
                steps[learners] = step;
                evenings[learners] = free;
                prices[learners] = price;
                partners[learners] = NONE;
                chances[learners] = 0;
                learners++;
            }
        }

        void addTeacher(int free, int breadth) {
            if (teachers < TEACHERS) {
                teacherEvenings[teachers] = free;
                breadths[teachers] = breadth;
                teachers++;
            }
        }

        void couple(int one, int other) {
            if (has(one) && has(other)) {
                leave(partners[one]);
                leave(partners[other]);
                partners[one] = other;
                partners[other] = one;
            }
        }

        private void leave(int partner) {
            if (has(partner)) {
                partners[partner] = NONE;
            }
        }

        boolean has(int learner) {
            return learner >= 0 && learner < learners;
        }

        boolean hasTeacher(int teacher) {
            return teacher >= 0 && teacher < teachers;
        }

        boolean teaches(int teacher, int evening) {
            return hasTeacher(teacher) && (teacherEvenings[teacher] >> evening & 1) != 0;
        }

        int all() {
            return (1 << learners) - 1;
        }

        int told(int what) {
            if (what == 0) {
                return learners;
            }
            if (what == 1) {
                return teachers;
            }
            if (what >= 2 && what < 2 + RULES) {
                return rules[what - 2];
            }
            if (what >= 20 && what < 20 + teachers) {
                return teacherEvenings[what - 20];
            }
            if (what >= 30 && what < 30 + teachers) {
                return breadths[what - 30];
            }
            if (what >= 40 && what < 40 + TABLE) {
                return gains[what - 40];
            }
            return what >= 50 && what < 50 + TABLE ? stays[what - 50] : NONE;
        }

        int base(int step, int own) {
            int above = step - own;
            return above >= -REACH && above <= REACH ? gains[above + REACH] : 0;
        }

        int stay(int step, int own) {
            int above = step - own;
            return above >= -REACH && above <= REACH ? stays[above + REACH] : 0;
        }

        /** FIT of one of a step, as if nobody else sat there. */
        int alone(Lesson c, int own) {
            switch (c.kind) {
                case KIND_TWO:
                    return (base(c.step, own) + base(c.second, own)) / 2;
                case KIND_BROAD:
                    return base(nearer(c.step, own, c.teacher), own);
                case KIND_LONG:
                    return base(c.step, own) * rules[LONG] / 100;
                default:
                    return base(c.step, own);
            }
        }

        private int nearer(int step, int own, int teacher) {
            int breadth = hasTeacher(teacher) ? breadths[teacher] : 0;
            int above = step - own;
            return above > breadth ? step - breadth : above < -breadth ? step + breadth : own;
        }

        /** FIT of one of a step, if others of the steps near (bits) sit there. */
        int fitting(Lesson c, int own, int near) {
            boolean told = c.kind == KIND_PAIRS && ((near << 1 | near >> 1) >> own & 1) != 0;
            return alone(c, own) + (told ? rules[TELL] : 0);
        }

        /** The steps (bits) of those who sit; the further learner of more(), too. */
        int stepsOf(int sits) {
            int bits = 0;
            for (int i = 0; i < PLACES && sits >> i != 0; i++) {
                if ((sits >> i & 1) != 0) {
                    bits |= 1 << steps[i];
                }
            }
            return bits;
        }

        /** What is left to each of n of what he would learn, of 100. */
        int part(int n) {
            return Math.max(0, 100 - rules[LESS] * Math.max(0, n - rules[EASY]));
        }

        int byOne(Lesson c, int learner) {
            int fit = fitting(c, steps[learner], stepsOf(c.sits));
            return fit * part(Integer.bitCount(c.sits)) / 100;
        }

        /** LEARNT in a class, if these sat there. */
        int together(Lesson c, int sits) {
            int near = c.kind == KIND_PAIRS ? stepsOf(sits) : 0;
            int part = part(Integer.bitCount(sits));
            int sum = 0;
            for (int i = 0; i < PLACES && sits >> i != 0; i++) {
                if ((sits >> i & 1) != 0) {
                    sum += fitting(c, steps[i], near) * part / 100;
                }
            }
            return sum;
        }

        int inAll(Plan p) {
            int sum = 0;
            for (int k = 0; k < p.size; k++) {
                sum += together(p.lessons[k], p.lessons[k].sits);
            }
            return sum;
        }

        /** Gives the class the least step by which most is learnt by these: how much that is. */
        int settle(Lesson c, int sits) {
            int most = NONE;
            int best = 0;
            for (int step = 0; step < STEPS; step++) {
                c.step = step;
                int learnt = together(c, sits);
                if (learnt > most) {
                    most = learnt;
                    best = step;
                }
            }
            c.step = best;
            return most;
        }

        /** Who (bits) is a step higher next year. */
        int rising(Plan p) {
            int rising = 0;
            for (int i = 0; i < learners; i++) {
                int learnt = 0;
                for (int k = 0; k < p.size; k++) {
                    learnt += p.lessons[k].has(i) ? byOne(p.lessons[k], i) : 0;
                }
                if (learnt >= rules[RISE] && steps[i] < TOP_STEP) {
                    rising |= 1 << i;
                }
            }
            return rising;
        }

        void rise(int who) {
            for (int i = 0; i < learners; i++) {
                steps[i] += who >> i & 1;
            }
        }

        boolean can(Lesson c, int learner) {
            return (evenings[learner] >> c.evening & 1) != 0 && prices[learner] >= rules[FEE];
        }

        boolean takesOneMore(Lesson c, int learner) {
            return can(c, learner) && Integer.bitCount(c.sits) < rules[MOST];
        }

        /** The classes (bits) where he can sit. */
        int whereCan(Plan p, int learner) {
            int where = 0;
            for (int k = 0; k < p.size; k++) {
                if (can(p.lessons[k], learner)) {
                    where |= 1 << k;
                }
            }
            return where;
        }

        int learnersOn(int evening) {
            int n = 0;
            for (int i = 0; i < learners; i++) {
                n += evenings[i] >> evening & 1;
            }
            return n;
        }

        int teachersOn(int evening) {
            int n = 0;
            for (int t = 0; t < teachers; t++) {
                n += teacherEvenings[t] >> evening & 1;
            }
            return n;
        }

        boolean hasCompany(int learner) {
            for (int i = 0; i < learners; i++) {
                boolean near = i != learner && Math.abs(steps[i] - steps[learner]) <= 1;
                if (near && (evenings[i] & evenings[learner]) != 0) {
                    return true;
                }
            }
            return false;
        }

        int leastPrice() {
            int least = DEAREST;
            for (int i = 0; i < learners; i++) {
                least = Math.min(least, prices[i]);
            }
            return least;
        }

        /** A fee above 0 that pays most is some learner's price: up to the next one nobody is lost. */
        int payingFee() {
            int most = 0;
            int best = 0;
            for (int i = 0; i < learners; i++) {
                int pays = prices[i] * payersOf(prices[i]);
                if (pays > most || (pays == most && prices[i] < best)) {
                    most = pays;
                    best = prices[i];
                }
            }
            return best;
        }

        private int payersOf(int fee) {
            int n = 0;
            for (int i = 0; i < learners; i++) {
                n += prices[i] >= fee ? 1 : 0;
            }
            return n;
        }
    }

    /** Reads a tape as a school or as a plan; both are good until it reads again. */
    private static final class Reader {
        private static final String SCHOOL_WORDS =
            "learner couple perhaps teacher above below crowd size rooms cost fee weeks rise tell long ";
        private static final String PLAN_WORDS = "even two broad long pairs sits ";

        private static final int LEARNER = 0;
        private static final int COUPLE = 1;
        private static final int PERHAPS = 2;
        private static final int TEACHER = 3;
        private static final int ABOVE = 4;
        private static final int BELOW = 5;
        private static final int CROWD = 6;
        private static final int SIZE = 7;
        private static final int FIRST_RULE = 8;
        private static final int FIRST_KIND = 15;
        private static final int SITS = 20;

        private static final int WIDTH = 4;
        /** By lines: how many numbers; then by lines and numbers the least and the greatest that can be. */
        private static final int[] NUMBERS = {3, 2, 2, 2, 3, 3, 2, 2, 1, 1, 1, 1, 1, 1, 1, 3, 4, 3, 3, 3, 1};
        private static final int[] LOW = {
            0, 1, 0, 0,
            0, 0, 0, 0,
            0, 0, 0, 0,
            1, 0, 0, 0,
            0, 0, 0, 0,
            1, 0, 0, 0,
            1, 0, 0, 0,
            1, 1, 0, 0,
            1, 0, 0, 0,
            0, 0, 0, 0,
            0, 0, 0, 0,
            1, 0, 0, 0,
            0, 0, 0, 0,
            0, 0, 0, 0,
            0, 0, 0, 0,
            0, 0, 0, 0,
            0, 0, 0, 0,
            0, 0, 0, 0,
            0, 0, 0, 0,
            0, 0, 0, 0,
            0, 0, 0, 0};
        private static final int[] HIGH = {
            11, 63, 999, 0,
            15, 15, 0, 0,
            15, 100, 0, 0,
            63, 3, 0, 0,
            3, 99, 100, 0,
            3, 99, 100, 0,
            15, 20, 0, 0,
            15, 15, 0, 0,
            9, 0, 0, 0,
            999, 0, 0, 0,
            999, 0, 0, 0,
            30, 0, 0, 0,
            99, 0, 0, 0,
            99, 0, 0, 0,
            200, 0, 0, 0,
            4, 5, 11, 0,
            4, 5, 11, 11,
            4, 5, 11, 0,
            4, 5, 11, 0,
            4, 5, 11, 0,
            15, 0, 0, 0};

        private static final int END = 0;
        private static final int WORD = 1;
        private static final int NUMBER = 2;
        private static final int SEMICOLON = 3;
        private static final int NO_TOKEN = 4;

        final School school = new School();
        final Plan plan = new Plan();
        int fault = 0;
        int place = NONE;
        private byte[] tape = null;
        private int length = 0;
        private int token = END;
        private int start = 0;
        private int end = 0;
        private int value = 0;
        private final int[] numbers = new int[WIDTH];
        private int sits = 0;

        void read(byte[] from, int bytes, boolean asSchool) {
            tape = from;
            length = from == null ? 0 : Math.min(bytes, from.length);
            end = 0;
            fault = 0;
            place = NONE;
            school.clear();
            plan.size = 0;
            for (int lines = 0; lines <= TAPE; lines++) {
                scan();
                if (token == END) {
                    return;
                }
                if (!readLine(asSchool)) {
                    fault = 1;
                    place = start;
                    return;
                }
            }
        }

        /** False at a token with which no text goes on. */
        private boolean readLine(boolean asSchool) {
            int word = token == WORD ? wordIn(asSchool ? SCHOOL_WORDS : PLAN_WORDS) : NONE;
            int line = asSchool || word == NONE ? word : FIRST_KIND + word;
            if (line < 0 || line >= NUMBERS.length) {
                return false;
            }
            checkWord(line);
            sits = 0;
            int most = line == SITS ? TAPE : NUMBERS[line];
            int n = 0;
            scan();
            while (n < most && token == NUMBER) {
                takeNumber(line, line == SITS ? 0 : n);
                n++;
                scan();
            }
            if (n < NUMBERS[line] || token != SEMICOLON) {
                return false;
            }
            if (fault == 0) {
                tell(line);
            }
            return true;
        }

        private void note(int which) {
            if (fault == 0) {
                fault = which;
                place = start;
            }
        }

        private void checkWord(int line) {
            boolean full = line == LEARNER ? school.learners >= LEARNERS
                    : line == TEACHER ? school.teachers >= TEACHERS
                    : line >= FIRST_KIND && line < SITS && plan.size >= CLASSES;
            if (full) {
                note(3);
            }
            if (line == SITS && plan.size == 0) {
                note(4);
            }
        }

        private void takeNumber(int line, int n) {
            int at = line * WIDTH + n;
            if (n < 0 || n >= WIDTH || at >= LOW.length || at >= HIGH.length) {
                return;
            }
            boolean can = value >= LOW[at] && value <= HIGH[at];
            if (line == COUPLE || (line == PERHAPS && n == 0)) {
                can = school.has(value) && (n == 0 || value != numbers[0]);
            }
            if (line == SIZE && n == 1) {
                can = can && value >= numbers[0];
            }
            if (!can) {
                note(2);
            }
            numbers[n] = value;
            sits |= 1 << (value & 15);
        }

        /** Only behind lines without a fault, so that all the numbers can be. */
        private void tell(int line) {
            int a = numbers[0];
            int b = numbers[1];
            int c = numbers[2];
            if (line == LEARNER) {
                school.addLearner(a, b, c);
            } else if (line == COUPLE) {
                school.couple(a, b);
            } else if (line == PERHAPS && school.has(a)) {
                school.chances[a] = b;
            } else if (line == TEACHER) {
                school.addTeacher(a, b);
            } else if ((line == ABOVE || line == BELOW) && a <= REACH) {
                int d = line == ABOVE ? REACH + a : REACH - a;
                school.gains[d] = b;
                school.stays[d] = c;
            } else if (line == CROWD) {
                school.rules[EASY] = a;
                school.rules[LESS] = b;
            } else if (line == SIZE) {
                school.rules[LEAST] = a;
                school.rules[MOST] = b;
            } else if (line >= FIRST_RULE && line < FIRST_KIND) {
                school.rules[ROOMS + line - FIRST_RULE] = a;
            } else if (line == SITS && plan.size > 0) {
                plan.lessons[plan.size - 1].sits |= sits;
            } else if (line >= FIRST_KIND && line < SITS && plan.size < CLASSES) {
                tellClass(line - FIRST_KIND);
            }
        }

        private void tellClass(int kind) {
            Lesson c = plan.lessons[plan.size];
            c.kind = kind;
            c.teacher = numbers[0];
            c.evening = numbers[1];
            c.step = numbers[2];
            c.second = kind == KIND_TWO ? numbers[3] : NONE;
            c.sits = 0;
            plan.size++;
        }

        /** The next token: its sort, its first byte's place and, of a number, its value. */
        private void scan() {
            int at = end;
            while (at < length && (tape[at] == 32 || tape[at] == 10)) {
                at++;
            }
            start = at;
            if (at >= length) {
                token = END;
                end = at;
                return;
            }
            if (tape[at] == ';') {
                token = SEMICOLON;
                end = at + 1;
                return;
            }
            if (isDigit(tape[at])) {
                scanNumber();
                return;
            }
            while (at < length && isLetter(tape[at])) {
                at++;
            }
            token = at > start ? WORD : NO_TOKEN;
            end = at;
        }

        private void scanNumber() {
            int at = start;
            value = 0;
            while (at < length && isDigit(tape[at])) {
                value = Math.min(9999, value * 10 + tape[at] - '0');
                at++;
            }
            token = at - start <= 3 ? NUMBER : NO_TOKEN;
            end = at;
        }

        private static boolean isDigit(int b) {
            return b >= '0' && b <= '9';
        }

        private static boolean isLetter(int b) {
            return b >= 'a' && b <= 'z';
        }

        /** Which of the words, each with a blank behind it, the token is; NONE if none. */
        private int wordIn(String words) {
            int index = 0;
            int from = 0;
            for (int i = 0; i < words.length(); i++) {
                if (words.charAt(i) == ' ') {
                    if (i - from == end - start && isAt(words, from)) {
                        return index;
                    }
                    index++;
                    from = i + 1;
                }
            }
            return NONE;
        }

        private boolean isAt(String words, int from) {
            for (int i = start; i < end; i++) {
                if (words.charAt(from + i - start) != tape[i]) {
                    return false;
                }
            }
            return true;
        }
    }

    /** The line of a school, cut into classes by tables. */
    private static final class Line {
        private final int[] row = new int[LEARNERS];
        /** By the first learner's place along the row and how many there are. */
        private final int[] worth = new int[LEARNERS * PLACES];
        private final int[] worthSteps = new int[LEARNERS * PLACES];
        /** By how many classes and the first learner's place: the most for all from there on, or NONE. */
        private final int[] best = new int[(CLASSES + 1) * PLACES];
        private final int[] sizes = new int[CLASSES];
        private final int[] steps = new int[CLASSES];
        private final Lesson lesson = new Lesson();
        private int learners = 0;
        private int classes = 0;
        private int learnt = NONE;

        /** What classes of those who lie one behind the other are worth. */
        void weigh(School s) {
            putInRow(s);
            for (int from = 0; from < learners; from++) {
                int sits = 0;
                for (int n = 1; n <= s.rules[MOST] && from + n <= learners; n++) {
                    sits |= 1 << row[from + n - 1];
                    if (n >= s.rules[LEAST]) {
                        worth[from * PLACES + n] = s.settle(lesson, sits);
                        worthSteps[from * PLACES + n] = lesson.step;
                    }
                }
            }
        }

        /** Behind weigh(): whether there is a cut into at most k classes. */
        boolean cut(School s, int k) {
            fillTable(s, k);
            classes = 0;
            learnt = NONE;
            for (int j = 0; j <= k && j <= CLASSES; j++) {
                if (best[j * PLACES] > learnt) {
                    learnt = best[j * PLACES];
                    classes = j;
                }
            }
            walk(s);
            return learnt != NONE;
        }

        int told(int what) {
            if (what == 0) {
                return learnt;
            }
            if (what == 1) {
                return classes;
            }
            if (what >= 10 && what < 10 + classes) {
                return sizes[what - 10];
            }
            if (what >= 20 && what < 20 + classes) {
                return steps[what - 20];
            }
            return what >= 30 && what < 30 + learners ? row[what - 30] : NONE;
        }

        private void putInRow(School s) {
            learners = 0;
            for (int step = 0; step < STEPS; step++) {
                for (int i = 0; i < s.learners && learners < LEARNERS; i++) {
                    if (s.steps[i] == step) {
                        row[learners] = i;
                        learners++;
                    }
                }
            }
        }

        private void fillTable(School s, int k) {
            for (int from = 0; from <= learners; from++) {
                best[from] = from == learners ? 0 : NONE;
            }
            for (int j = 1; j <= k && j <= CLASSES; j++) {
                for (int from = 0; from <= learners; from++) {
                    int most = NONE;
                    for (int n = s.rules[LEAST]; n <= s.rules[MOST] && from + n <= learners; n++) {
                        most = Math.max(most, with(j, from, n));
                    }
                    best[j * PLACES + from] = most;
                }
            }
        }

        /** The most for all from a place on in j classes with n in the first one, or NONE. */
        private int with(int j, int from, int n) {
            int rest = best[(j - 1) * PLACES + from + n];
            return rest == NONE ? NONE : worth[from * PLACES + n] + rest;
        }

        private void walk(School s) {
            int from = 0;
            for (int j = classes; j >= 1; j--) {
                int size = s.rules[LEAST];
                while (from + size < learners && with(j, from, size) != best[j * PLACES + from]) {
                    size++;
                }
                sizes[classes - j] = size;
                steps[classes - j] = worthSteps[from * PLACES + size];
                from += size;
            }
        }
    }

    /** A few learners are shared out among classes or sent home, so that most is learnt. */
    private static final class Sharing {
        private static final int SETS = 256;
        /** Home's digit in a row of classes, behind all of them. */
        private static final int HOME = 3;
        private static final int RANKS = 65536;

        private final int[] who = new int[SHARED];
        private int size = 0;
        /** By sets of those who are shared: the most with the classes so far. */
        private final int[] best = new int[SETS];
        private final int[] worth = new int[SETS];

        /**
         * What is learnt counts RANKS; of that goes the row of classes, read as digits from learner 0
         * on, so that of rows with the same LEARNT the first one is worth most.
         */
        void seatAll(School s, Plan p) {
            begin(s.all());
            for (int set = 0; set < 1 << size; set++) {
                best[set] = -HOME * rank(set);
            }
            for (int k = 0; k < p.size && k < SHARED_CLASSES; k++) {
                for (int set = 0; set < 1 << size; set++) {
                    boolean can = maySit(s, p.lessons[k], set);
                    worth[set] = can ? s.together(p.lessons[k], set) * RANKS - k * rank(set) : IMPOSSIBLE;
                }
                give();
            }
        }

        int most() {
            return (best[(1 << size) - 1] + RANKS - 1) / RANKS;
        }

        /** The class of a learner, HOME if he is at home. */
        int classOf(int learner) {
            if (learner < 0 || learner >= SHARED) {
                return HOME;
            }
            int row = most() * RANKS - best[(1 << size) - 1];
            return row >> 2 * (SHARED - 1 - learner) & 3;
        }

        int withoutTeacher(School s, Plan p, int teacher, int moved) {
            begin(moved);
            for (int set = 0; set < 1 << size; set++) {
                best[set] = 0;
            }
            for (int k = 0; k < p.size; k++) {
                Lesson c = p.lessons[k];
                if (c.teacher != teacher) {
                    for (int set = 0; set < 1 << size; set++) {
                        worth[set] = mayCome(s, c, set) ? s.together(c, c.sits | learnersOf(set)) : IMPOSSIBLE;
                    }
                    give();
                }
            }
            return best[(1 << size) - 1];
        }

        private void begin(int learners) {
            size = 0;
            for (int i = 0; i < LEARNERS && size < SHARED; i++) {
                if ((learners >> i & 1) != 0) {
                    who[size] = i;
                    size++;
                }
            }
        }

        /** From the greatest set down, as each set needs what its parts had before. */
        private void give() {
            for (int set = (1 << size) - 1; set >= 0; set--) {
                int most = IMPOSSIBLE;
                for (int part = set; part >= 0; part = part == 0 ? NONE : part - 1 & set) {
                    if (worth[part] != IMPOSSIBLE) {
                        most = Math.max(most, worth[part] + best[set & ~part]);
                    }
                }
                best[set] = most;
            }
        }

        private int rank(int set) {
            int rank = 0;
            for (int i = 0; i < size; i++) {
                rank += (set >> i & 1) << 2 * (SHARED - 1 - i);
            }
            return rank;
        }

        private int learnersOf(int set) {
            int learners = 0;
            for (int i = 0; i < size; i++) {
                learners |= (set >> i & 1) << who[i];
            }
            return learners;
        }

        private static boolean maySit(School s, Lesson c, int sits) {
            int n = Integer.bitCount(sits);
            if (n != 0 && (n < s.rules[LEAST] || n > s.rules[MOST])) {
                return false;
            }
            for (int i = 0; i < s.learners; i++) {
                int partner = s.partners[i];
                boolean torn = partner != NONE && (sits >> partner & 1) == 0;
                if ((sits >> i & 1) != 0 && (torn || !s.can(c, i))) {
                    return false;
                }
            }
            return true;
        }

        private boolean mayCome(School s, Lesson c, int set) {
            if (set != 0 && Integer.bitCount(c.sits) + Integer.bitCount(set) > s.rules[MOST]) {
                return false;
            }
            for (int i = 0; i < size; i++) {
                if ((set >> i & 1) != 0 && !s.can(c, who[i])) {
                    return false;
                }
            }
            return true;
        }
    }

    /** Who sits beside whom in a class. */
    private static final class Benches {
        private final int[] who = new int[BENCHED];
        private final int[] counts = new int[BENCHED * BENCHED];
        private final int[] neighbours = new int[LEARNERS];
        /** By sets of those who sit there: the most. Made when it is first needed, as it is long. */
        private int[] best = null;
        private int size = 0;

        int seat(School s, int sits) {
            size = 0;
            for (int i = 0; i < LEARNERS && size < BENCHED; i++) {
                if ((sits >> i & 1) != 0) {
                    who[size] = i;
                    size++;
                }
            }
            countPairs(s);
            fillTable();
            walk();
            return best[(1 << size) - 1];
        }

        int neighbourOf(int learner) {
            return learner >= 0 && learner < LEARNERS ? neighbours[learner] : NONE;
        }

        private void countPairs(School s) {
            for (int i = 0; i < size; i++) {
                for (int j = 0; j < size; j++) {
                    int apart = Math.abs(s.steps[who[i]] - s.steps[who[j]]);
                    int tells = (apart == 1 ? 1 : 0) + (s.partners[who[i]] == who[j] ? 2 : 0);
                    counts[i * BENCHED + j] = tells * s.rules[TELL];
                }
            }
        }

        private void fillTable() {
            if (best == null) {
                best = new int[1 << BENCHED];
            }
            best[0] = 0;
            for (int set = 1; set < 1 << size; set++) {
                int first = Integer.numberOfTrailingZeros(set);
                int rest = set & (set - 1);
                int most = best[rest];
                for (int j = first + 1; j < size; j++) {
                    if ((rest >> j & 1) != 0) {
                        most = Math.max(most, counts[first * BENCHED + j] + best[rest & ~(1 << j)]);
                    }
                }
                best[set] = most;
            }
        }

        private void walk() {
            int left = (1 << size) - 1;
            for (int i = 0; i < size; i++) {
                if ((left >> i & 1) == 0) {
                    continue;
                }
                int rest = left & ~(1 << i);
                int beside = NONE;
                for (int j = i + 1; j < size && beside == NONE; j++) {
                    boolean there = (rest >> j & 1) != 0;
                    if (there && counts[i * BENCHED + j] + best[rest & ~(1 << j)] == best[left]) {
                        beside = j;
                    }
                }
                neighbours[who[i]] = NONE;
                if (beside != NONE) {
                    neighbours[who[i]] = who[beside];
                    neighbours[who[beside]] = who[i];
                    rest &= ~(1 << beside);
                }
                left = rest;
            }
        }
    }

    /** Weeks by a seed, in which classes shrink. */
    private static final class Term {
        private int x = 0;
        private final int[] sits = new int[CLASSES];
        private final int[] ends = new int[CLASSES];

        void run(School s, Plan p, int seed, int weeks) {
            x = seed;
            for (int k = 0; k < p.size; k++) {
                sits[k] = p.lessons[k].sits;
                ends[k] = NONE;
            }
            for (int week = 1; week <= weeks; week++) {
                for (int k = 0; k < p.size; k++) {
                    shrink(s, p.lessons[k], k);
                    if (ends[k] == NONE && Integer.bitCount(sits[k]) < s.rules[LEAST]) {
                        sits[k] = 0;
                        ends[k] = week;
                    }
                }
            }
        }

        int stillIn(int k) {
            return k >= 0 && k < CLASSES ? Integer.bitCount(sits[k]) : 0;
        }

        int stillInAll(int classes) {
            int n = 0;
            for (int k = 0; k < classes; k++) {
                n += stillIn(k);
            }
            return n;
        }

        /** The week behind which a class ended, NONE if it did not. */
        int endOf(int k) {
            return k >= 0 && k < CLASSES ? ends[k] : NONE;
        }

        private void shrink(School s, Lesson c, int k) {
            for (int i = 0; i < s.learners; i++) {
                if ((sits[k] >> i & 1) != 0 && draw() >= s.stay(c.step, s.steps[i])) {
                    sits[k] &= ~(1 << i);
                }
            }
        }

        private int draw() {
            x = x * 1103515245 + 12345;
            return (x >>> 16) % 100;
        }
    }
}
