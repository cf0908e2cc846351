import java.util.ArrayList;
import java.util.Arrays;
import java.util.List;
import java.util.Random;
import java.util.TreeSet;

/**
 * Runs of up to 512 mixed calls on one object, by seeds: each answer against Second, a second reading of
 * the document. Several schools and plans, texts in the place of others, spoilt texts, next years, seats
 * that change, images, and arguments that can't be.
 */
public final class RunsTest {
    private static final int CALLS = 512;
    private static int wrong = 0;
    private static int compared = 0;
    /** By calls: answers that are more than that there is none such. */
    private static final int[] told = new int[45];

    /** All that is told, as the second reading has it. */
    private static final class World {
        StringBuilder tape = new StringBuilder();
        int fault = 0;
        int place = -1;
        List<Second.School> schools = new ArrayList<>();
        List<List<Second.Course>> plans = new ArrayList<>();

        World copy() {
            World w = new World();
            w.tape.append(tape);
            w.fault = fault;
            w.place = place;
            for (Second.School s : schools) {
                w.schools.add(s.copy());
            }
            for (List<Second.Course> p : plans) {
                w.plans.add(Second.copy(p));
            }
            return w;
        }
    }

    private final Random r;
    private final SchoolDoors x = new SchoolDoors();
    private final StringBuilder log = new StringBuilder();
    private World w = new World();
    private final World[] images = new World[3];
    private int calls = 0;
    private int call = 2;

    private RunsTest(int seed) {
        r = new Random(seed * 0x9E3779B97F4A7C15L);
    }

    private void due(String what, int got, int want) {
        calls++;
        compared++;
        told[call] += want == -1 || want == -2 || want == Second.NO_SUM ? 0 : 1;
        log.append(what).append(" = ").append(got).append('\n');
        if (got != want) {
            wrong++;
            if (wrong <= 5) {
                System.out.println(log.append("  due is ").append(want));
            }
        }
    }

    private static int bit(boolean b) {
        return b ? 1 : 0;
    }

    // ---- the tape and texts

    private void feed(int[] n) {
        int want = w.tape.length() + 20 > 600 ? -1 : w.tape.length() + 20;
        for (int i = 0; i < 20 && want != -1; i++) {
            w.tape.append((char) (n[i / 4] >>> 24 - i % 4 * 8 & 255));
        }
        due("feed" + Arrays.toString(n), x.feed(n[0], n[1], n[2], n[3], n[4]), want);
    }

    private void end(int n) {
        boolean holds = n >= 0 && n <= w.tape.length();
        if (holds) {
            w.tape.setLength(n);
        }
        due("end " + n, x.end(n), holds ? n : -1);
    }

    private void put(String text) {
        int before = w.tape.length();
        for (int at = 0; at < text.length(); at += 20) {
            int[] n = new int[5];
            for (int i = 0; i < 20; i++) {
                n[i / 4] = n[i / 4] << 8 | (at + i < text.length() ? text.charAt(at + i) : r.nextInt(256));
            }
            feed(n);
        }
        end(Math.min(before + text.length(), w.tape.length()));
    }

    private void text(int sort, int at) {
        String tape = w.tape.toString();
        w.tape.setLength(0);
        w.fault = 0;
        w.place = -1;
        int count = sort == 0 ? w.schools.size() : w.plans.size();
        int number = sort != 0 && sort != 1 ? -2 : at == -1 ? (count == 3 ? -2 : count) : at < 0 || at >= count ? -2 : at;
        if (number >= 0) {
            number = sort == 0 ? readSchool(tape, number) : readPlan(tape, number);
        }
        due("text " + sort + " " + at + " (" + tape + ")", x.text(sort, at), number);
        due("fault 0", x.fault(0), w.fault);
        due("fault 1", x.fault(1), w.place);
    }

    private int readSchool(String tape, int number) {
        Second.School s = new Second.School();
        List<int[]> faults = new ArrayList<>();
        List<List<String[]>> lines = lines(tape, true);
        for (int i = 0; lines != null && i < lines.size(); i++) {
            lineOfSchool(s, lines.get(i), faults);
        }
        if (lines == null || noted(faults)) {
            return -1;
        }
        if (number == w.schools.size()) {
            w.schools.add(s);
        } else {
            w.schools.set(number, s);
        }
        return number;
    }

    private int readPlan(String tape, int number) {
        List<Second.Course> p = new ArrayList<>();
        List<int[]> faults = new ArrayList<>();
        List<List<String[]>> lines = lines(tape, false);
        for (int i = 0; lines != null && i < lines.size(); i++) {
            lineOfPlan(p, lines.get(i), faults);
        }
        if (lines == null || noted(faults)) {
            return -1;
        }
        if (number == w.plans.size()) {
            w.plans.add(p);
        } else {
            w.plans.set(number, p);
        }
        return number;
    }

    private boolean noted(List<int[]> faults) {
        faults.sort((a, b) -> a[1] != b[1] ? a[1] - b[1] : a[0] - b[0]);
        if (!faults.isEmpty()) {
            w.fault = faults.get(0)[0];
            w.place = faults.get(0)[1];
        }
        return !faults.isEmpty();
    }

    private static final String SCHOOL = " learner.3 couple.2 perhaps.2 teacher.2 above.3 below.3 crowd.2 size.2 rooms.1 cost.1 "
            + "fee.1 weeks.1 rise.1 tell.1 long.1 ";
    private static final String PLAN = " even.3 two.4 broad.3 long.3 pairs.3 sits.1 ";

    /** Lines of tokens, each with its place; null with FAULT 1. */
    private List<List<String[]>> lines(String tape, boolean school) {
        List<List<String[]>> lines = new ArrayList<>();
        List<String[]> line = new ArrayList<>();
        String words = school ? SCHOOL : PLAN;
        int at = 0;
        while (true) {
            while (at < tape.length() && (tape.charAt(at) == 10 || tape.charAt(at) == 32)) {
                at++;
            }
            int to = at;
            while (to < tape.length() && tape.charAt(to) >= 'a' && tape.charAt(to) <= 'z') {
                to++;
            }
            boolean word = to > at;
            while (!word && to < tape.length() && tape.charAt(to) >= '0' && tape.charAt(to) <= '9') {
                to++;
            }
            boolean number = !word && to > at && to <= at + 3;
            String token = tape.substring(at, to);
            boolean goesOn;
            if (line.isEmpty()) {
                if (at == tape.length()) {
                    return lines;
                }
                goesOn = word && words.contains(" " + token + ".");
            } else {
                int dot = words.indexOf(" " + line.get(0)[0] + ".") + line.get(0)[0].length() + 2;
                int need = words.charAt(dot) - '0';
                int have = line.size() - 1;
                boolean stop = at < tape.length() && tape.charAt(at) == ';';
                goesOn = number ? have < need || line.get(0)[0].equals("sits") : stop && have >= need;
                to = stop ? at + 1 : to;
            }
            if (!goesOn) {
                w.fault = 1;
                w.place = at;
                return null;
            }
            if (word || number) {
                line.add(new String[] {token, "" + at});
            } else {
                lines.add(line);
                line = new ArrayList<>();
            }
            at = to;
        }
    }

    private static int number(List<String[]> line, int i, int low, int high, List<int[]> faults) {
        int n = Integer.parseInt(line.get(i)[0]);
        if (n < low || n > high) {
            faults.add(new int[] {2, Integer.parseInt(line.get(i)[1])});
        }
        return n;
    }

    private static void lineOfSchool(Second.School s, List<String[]> line, List<int[]> faults) {
        int place = Integer.parseInt(line.get(0)[1]);
        int n = s.size();
        switch (line.get(0)[0]) {
            case "learner":
                Second.Learner l = new Second.Learner();
                l.step = number(line, 1, 0, 11, faults);
                l.evenings = number(line, 2, 1, 63, faults);
                l.price = number(line, 3, 0, 999, faults);
                s.learners.add(l);
                if (n == 16) {
                    faults.add(new int[] {3, place});
                }
                break;
            case "couple":
                int one = number(line, 1, 0, n - 1, faults);
                int other = number(line, 2, 0, n - 1, faults);
                if (one == other) {
                    number(line, 2, 1, 0, faults);
                } else if (one < n && other < n) {
                    for (Second.Learner m : s.learners) {
                        m.partner = m.partner == one || m.partner == other ? -1 : m.partner;
                    }
                    s.learners.get(one).partner = other;
                    s.learners.get(other).partner = one;
                }
                break;
            case "perhaps":
                int who = number(line, 1, 0, n - 1, faults);
                int chance = number(line, 2, 0, 100, faults);
                if (who < n) {
                    s.learners.get(who).chance = chance;
                }
                break;
            case "teacher":
                s.teachers.add(new int[] {number(line, 1, 1, 63, faults), number(line, 2, 0, 3, faults)});
                if (s.teachers.size() == 6) {
                    faults.add(new int[] {3, place});
                }
                break;
            default:
                ruleOfSchool(s, line, faults);
        }
    }

    private static void ruleOfSchool(Second.School s, List<String[]> line, List<int[]> faults) {
        switch (line.get(0)[0]) {
            case "above":
            case "below":
                boolean above = line.get(0)[0].equals("above");
                int d = number(line, 1, above ? 0 : 1, 3, faults);
                int[] row = {number(line, 2, 0, 99, faults), number(line, 3, 0, 100, faults)};
                s.table[3 + (above ? Math.min(3, d) : -Math.min(3, d))] = row;
                break;
            case "crowd":
                s.easy = number(line, 1, 1, 15, faults);
                s.less = number(line, 2, 0, 20, faults);
                break;
            case "size":
                s.least = number(line, 1, 1, 15, faults);
                s.most = number(line, 2, Math.max(1, s.least), 15, faults);
                break;
            case "rooms":
                s.rooms = number(line, 1, 1, 9, faults);
                break;
            case "cost":
                s.cost = number(line, 1, 0, 999, faults);
                break;
            case "fee":
                s.fee = number(line, 1, 0, 999, faults);
                break;
            case "weeks":
                s.weeks = number(line, 1, 1, 30, faults);
                break;
            case "rise":
                s.rise = number(line, 1, 0, 99, faults);
                break;
            case "tell":
                s.tell = number(line, 1, 0, 99, faults);
                break;
            default:
                s.longer = number(line, 1, 0, 200, faults);
        }
    }

    private static void lineOfPlan(List<Second.Course> p, List<String[]> line, List<int[]> faults) {
        int place = Integer.parseInt(line.get(0)[1]);
        if (line.get(0)[0].equals("sits")) {
            if (p.isEmpty()) {
                faults.add(new int[] {4, place});
            }
            for (int i = 1; i < line.size(); i++) {
                int who = number(line, i, 0, 15, faults);
                if (!p.isEmpty()) {
                    p.get(p.size() - 1).sits.add(who);
                }
            }
            return;
        }
        Second.Course c = new Second.Course();
        c.kind = Arrays.asList("even", "two", "broad", "long", "pairs").indexOf(line.get(0)[0]);
        c.teacher = number(line, 1, 0, 4, faults);
        c.evening = number(line, 2, 0, 5, faults);
        c.step = number(line, 3, 0, 11, faults);
        c.second = c.kind == 1 ? number(line, 4, 0, 11, faults) : -1;
        p.add(c);
        if (p.size() == 7) {
            faults.add(new int[] {3, place});
        }
    }

    // ---- texts by seeds

    private int among(int low, int high) {
        return low + r.nextInt(high - low + 1);
    }

    private String schoolText() {
        StringBuilder t = new StringBuilder();
        int n = r.nextInt(3) == 0 ? among(9, 16) : among(0, 8);
        int low = among(0, 11);
        int high = Math.min(11, low + among(0, 5));
        int evenings = r.nextBoolean() ? 63 : 7;
        int dear = r.nextInt(3) == 0 ? 999 : 40;
        int rough = r.nextInt(4);
        for (int i = 0; i < n; i++) {
            t.append("learner ").append(among(low, high)).append(' ').append(1 + (r.nextInt(evenings) | r.nextInt(evenings)))
                    .append(' ').append(rough > 0 ? dear - r.nextInt(1 + dear / 8) : among(0, dear)).append(";");
        }
        for (int i = r.nextInt(8) == 0 ? 0 : among(1, 5); i > 0; i--) {
            t.append("teacher ").append(r.nextInt(3) == 0 ? 63 : among(1, 63)).append(' ').append(among(0, 3)).append(";");
        }
        for (int i = r.nextInt(4); i > 0 && n > 1; i--) {
            int one = r.nextInt(n);
            t.append("couple ").append(one).append(' ').append((one + among(1, n - 1)) % n).append(";");
        }
        for (int i = r.nextInt(7); i > 0 && n > 0; i--) {
            t.append("perhaps ").append(r.nextInt(n)).append(' ').append(among(0, 100)).append(";");
        }
        for (int d = -3; d <= 3; d++) {
            if (r.nextInt(6) > 0) {
                t.append(d < 0 ? "below " : "above ").append(Math.abs(d)).append(' ').append(r.nextBoolean() ? among(0, 99)
                        : 30 * among(0, 3)).append(' ').append(among(r.nextBoolean() ? 95 : 50, 100)).append(";");
            }
        }
        int least = r.nextInt(3) == 0 ? among(1, 4) : 1;
        t.append(r.nextBoolean() ? "size " + least + " " + among(least, r.nextBoolean() ? 15 : least + 2) + ";" : "");
        t.append(r.nextBoolean() ? "crowd " + among(1, 5) + " " + among(0, 20) + ";" : "");
        t.append(r.nextBoolean() ? "rooms " + among(1, 3) + ";" : "");
        t.append(r.nextBoolean() ? "cost " + among(0, dear) + ";" : "");
        t.append(r.nextBoolean() ? "fee " + (r.nextInt(3) == 0 ? among(0, dear) : dear - dear / 7) + ";" : "");
        t.append(r.nextBoolean() ? "weeks " + among(1, 30) + ";" : "");
        t.append(r.nextBoolean() ? "rise " + among(0, 99) + ";" : "");
        t.append(r.nextBoolean() ? "tell " + among(0, 99) + ";" : "");
        t.append(r.nextBoolean() ? "long " + among(0, 200) + ";" : "");
        return t.toString();
    }

    private String planText() {
        StringBuilder t = new StringBuilder();
        Second.School s = w.schools.isEmpty() ? new Second.School() : w.schools.get(r.nextInt(w.schools.size()));
        String[] words = {"even", "two", "broad", "long", "pairs"};
        int teachers = s.teachers.isEmpty() || r.nextInt(20) == 0 ? 5 : s.teachers.size();
        int learners = s.size() == 0 || r.nextInt(20) == 0 ? 16 : s.size();
        int n = r.nextBoolean() ? among(0, 3) : among(0, 6);
        int every = 1 + r.nextInt(6);
        for (int k = 0; k < n; k++) {
            int kind = r.nextInt(5);
            int near = s.size() == 0 ? 5 : s.learners.get(r.nextInt(s.size())).step;
            t.append(words[kind]).append(' ').append(r.nextInt(teachers)).append(' ').append(r.nextInt(r.nextBoolean() ? 6 : 2))
                    .append(' ').append(Math.max(0, Math.min(11, near + among(-3, 3))));
            t.append(kind == 1 ? " " + among(0, 11) : "").append(r.nextBoolean() ? ";" : " ;\n");
            StringBuilder sits = new StringBuilder();
            for (int l = 0; l < learners && (s.size() > 0 || r.nextInt(9) == 0); l++) {
                boolean can = l < s.size() && k < n && r.nextInt(every) == 0;
                sits.append(can ? " " + l : "");
            }
            t.append(sits.length() > 0 ? "sits" + sits + ";" : "");
        }
        return t.toString();
    }

    private void tell(int sort) {
        StringBuilder t = new StringBuilder(sort == 0 ? schoolText() : planText());
        int odd = r.nextInt(12);
        String signs = "0123456789;; \n azlz{`/:";
        for (int i = 0; odd < 2 && i <= odd && t.length() > 0; i++) {
            int at = r.nextInt(t.length());
            char c = signs.charAt(r.nextInt(signs.length()));
            if (r.nextBoolean()) {
                t.setCharAt(at, c);
            } else if (r.nextBoolean()) {
                t.insert(at, c);
            } else {
                t.deleteCharAt(at);
            }
        }
        if (r.nextInt(30) > 0) {
            end(0);
        }
        put(t.toString());
        int n = sort == 0 ? w.schools.size() : w.plans.size();
        text(sort, r.nextInt(20) == 0 ? among(-1, 3) : n == 3 ? r.nextInt(3) : -1);
        if (w.fault == 0) {
            askAll(sort);
        }
    }

    /** What has been told, read back. */
    private void askAll(int sort) {
        int n = sort == 0 ? w.schools.size() : w.plans.size();
        due("count " + sort, x.count(sort), n);
        if (n > 0 && r.nextInt(4) == 0) {
            int i = r.nextInt(n);
            for (int what = 0; sort == 0 && what < 58; what++) {
                due("about " + i + " " + what, x.about(i, what), about(i, what));
            }
            for (int k = -1; sort == 1 && k < w.plans.get(i).size(); k++) {
                for (int what = 0; what < 6; what++) {
                    due("plan " + i + " " + k + " " + what, x.plan(i, k, what), planOf(i, k, what));
                }
            }
        }
    }

    // ---- all other calls

    private static final int[] WILD = {-3, -2, -1, 6, 7, 8, 9, 13, 16, 17, 32, 33, 64, 99, 1000, 1 << 16, Integer.MAX_VALUE,
        Integer.MIN_VALUE};

    /** Mostly from low to high. */
    private int pick(int low, int high) {
        int sort = r.nextInt(40);
        return sort == 0 ? WILD[r.nextInt(WILD.length)] : sort == 1 ? high + 1 : sort == 2 ? low - 1
                : high < low ? low : among(low, high);
    }

    private Second.School school(int i) {
        return i >= 0 && i < w.schools.size() ? w.schools.get(i) : null;
    }

    private boolean goes(int school, int plan) {
        Second.School s = school(school);
        if (s == null || plan < 0 || plan >= w.plans.size()) {
            return false;
        }
        for (Second.Course c : w.plans.get(plan)) {
            if (c.teacher >= s.teachers.size() || !c.sits.isEmpty() && c.sits.last() >= s.size()) {
                return false;
            }
        }
        return true;
    }

    private boolean asksMuch(int school, int plan) {
        return goes(school, plan) && w.plans.get(plan).size() > 1 && school(school).size() > 2;
    }

    private boolean anyAsksMuch() {
        boolean any = false;
        for (int i = 0; i < 9; i++) {
            any |= asksMuch(i / 3, i % 3);
        }
        return any;
    }

    private int about(int i, int what) {
        Second.School s = school(i);
        if (s == null || what < 0) {
            return -1;
        }
        int[] first = {s.size(), s.teachers.size(), s.easy, s.less, s.least, s.most, s.rooms, s.cost, s.fee, s.weeks, s.rise,
            s.tell, s.longer};
        if (what < 13) {
            return first[what];
        }
        for (int t = 0; t < s.teachers.size(); t++) {
            if (what == 20 + t || what == 30 + t) {
                return s.teachers.get(t)[what == 20 + t ? 0 : 1];
            }
        }
        for (int d = -3; d <= 3; d++) {
            if (what == 43 + d || what == 53 + d) {
                return s.table[d + 3][what == 43 + d ? 0 : 1];
            }
        }
        return -1;
    }

    private int learner(int i, int l, int what) {
        Second.School s = school(i);
        if (s == null || l < 0 || l >= s.size()) {
            return -2;
        }
        Second.Learner m = s.learners.get(l);
        return what == 0 ? m.step : what == 1 ? m.evenings : what == 2 ? m.price : what == 3 ? m.partner
                : what == 4 ? m.chance : -2;
    }

    private int planOf(int i, int k, int what) {
        if (i < 0 || i >= w.plans.size()) {
            return -2;
        }
        List<Second.Course> p = w.plans.get(i);
        if (k < 0 || k >= p.size()) {
            return k == -1 && what == 0 ? p.size() : -2;
        }
        Second.Course c = p.get(k);
        return what == 0 ? c.kind : what == 1 ? c.teacher : what == 2 ? c.evening : what == 3 ? c.step : what == 4 ? c.second
                : what == 5 ? Second.bits(c.sits) : -2;
    }

    private void askSit(int plan, int k, int learner) {
        boolean sits = r.nextInt(3) > 0;
        boolean isNew = plan >= 0 && plan < w.plans.size() && k >= 0 && k < w.plans.get(plan).size() && learner >= 0
                && learner < 16;
        if (isNew) {
            TreeSet<Integer> there = w.plans.get(plan).get(k).sits;
            isNew = sits ? there.add(learner) : there.remove(learner);
        }
        due("sit " + plan + " " + k + " " + learner + " " + sits, bit(x.sit(plan, k, learner, sits)), bit(isNew));
    }

    private void askNext(int school, int plan) {
        int at = r.nextBoolean() ? -1 : pick(0, w.schools.size() - 1);
        int n = w.schools.size();
        int number = !goes(school, plan) || at < -1 || at >= n || at == -1 && n == 3 ? -1 : at == -1 ? n : at;
        if (number >= 0) {
            Second.School then = Second.nextYear(school(school), w.plans.get(plan));
            if (number == n) {
                w.schools.add(then);
            } else {
                w.schools.set(number, then);
            }
        }
        due("next " + school + " " + plan + " " + at, x.next(school, plan, at), number);
        for (int l = 0; number >= 0 && l < school(number).size(); l++) {
            due("learner " + number + " " + l + " 0", x.learner(number, l, 0), learner(number, l, 0));
        }
    }

    private void askImages(boolean again) {
        int k = pick(0, 2);
        boolean there = k >= 0 && k <= 2 && (!again || images[k] != null);
        due((again ? "again " : "image ") + k, bit(again ? x.again(k) : x.image(k)), bit(there));
        if (there && again) {
            w = images[k].copy();
        } else if (there) {
            images[k] = w.copy();
        }
    }

    /** Without a PLAN. */
    private boolean askSchool(int call, int school) {
        Second.School s = school(school);
        int n = s == null ? 3 : s.size();
        int a;
        switch (call) {
            case 4:
                a = pick(0, r.nextBoolean() ? 12 : 57);
                due("about " + school + " " + a, x.about(school, a), about(school, a));
                return true;
            case 5:
                a = pick(0, n - 1);
                int what = pick(0, 4);
                due("learner " + school + " " + a + " " + what, x.learner(school, a, what), learner(school, a, what));
                return true;
            case 14:
                askLine(school, s, pick(1, 6));
                return true;
            case 21:
                boolean pays = r.nextBoolean();
                due("fills " + school + " " + pays, x.fills(school, pays), s == null ? -1 : Second.fills(s, pays));
                return true;
            case 27:
                a = pick(0, 5);
                due("lacks " + school + " " + a, x.lacks(school, a), s == null || a < 0 || a > 5 ? -1 : Second.lacks(s, a));
                return true;
            case 29:
                due("lonely " + school, x.lonely(school), s == null ? -1 : Second.lonely(s));
                return true;
            case 36:
                a = s != null && n > 0 && r.nextBoolean() ? s.learners.get(r.nextInt(n)).price + r.nextInt(2) : pick(0, 999);
                due("off " + school + " " + a, x.off(school, a), s == null || a < 0 || a > 999 ? -1 : Second.off(s, a));
                return true;
            default:
                return false;
        }
    }

    private void askLine(int school, Second.School s, int k) {
        List<int[]> want = s == null || k < 1 || k > 6 ? null : Second.line(s, k);
        int what = pick(0, 45);
        int due = -1;
        for (int i = 0; want != null && i < want.size(); i++) {
            due = want.get(i)[0] == what ? want.get(i)[1] : due;
            if (i < 2 || r.nextInt(8) == 0) {
                int told = want.get(i)[0];
                due("line " + school + " " + k + " " + told, x.line(school, k, told), want.get(i)[1]);
            }
        }
        due("line " + school + " " + k + " " + what, x.line(school, k, what), due);
    }

    /** By a PLAN alone, or by a PLAN and a what. */
    private boolean askPlan(int call, int school, int plan) {
        boolean goes = goes(school, plan);
        Second.School s = school(school);
        List<Second.Course> p = goes ? w.plans.get(plan) : null;
        String on = " " + school + " " + plan;
        int what = pick(0, 2);
        boolean told = goes && what >= 0 && what <= 2;
        switch (call) {
            case 7:
                due("goes" + on, bit(x.goes(school, plan)), bit(goes));
                return true;
            case 11:
                due("wrong" + on + " " + what, x.wrong(school, plan, what), told ? Second.wrong(s, p)[what] : -1);
                return true;
            case 12:
                due("home" + on, x.home(school, plan), goes ? Second.bits(Second.home(s, p)) : -1);
                return true;
            case 13:
                due("coin" + on, x.coin(school, plan), goes ? Second.coin(s, p, s.cost) : Second.NO_SUM);
                return true;
            case 15:
                askSeats(on, school, plan, s, p);
                return true;
            case 16:
                due("fewest" + on, x.fewest(school, plan), goes ? Second.fewest(s, p) : -1);
                return true;
            case 18:
                due("whom" + on, x.whom(school, plan), goes ? Second.whom(s, p) : -1);
                return true;
            case 19:
                due("move" + on + " " + what, x.move(school, plan, what), told ? Second.move(s, p)[what] : -1);
                return true;
            case 22:
                askNext(school, plan);
                return true;
            case 34:
                due("merge" + on + " " + what, x.merge(school, plan, what), told ? Second.merge(s, p)[what] : Second.NO_SUM);
                return true;
            case 39:
                due("toll" + on, x.toll(school, plan), goes ? Second.toll(s, p) : -1);
                return true;
            case 41:
                due("pass" + on, x.pass(school, plan), goes ? Second.pass(s, p) : -1);
                return true;
            default:
                return false;
        }
    }

    private void askSeats(String on, int school, int plan, Second.School s, List<Second.Course> p) {
        boolean few = p != null && s.size() <= 8 && p.size() <= 3;
        int[] best = few ? Second.seats(s, p) : null;
        due("seats" + on + " 0", x.seats(school, plan, 0), few ? best[s.size()] : -2);
        for (int l = 0; few && l < s.size(); l++) {
            due("seats" + on + " of " + l, x.seats(school, plan, 10 + l), best[l] == p.size() ? -1 : best[l]);
        }
        int what = pick(8, 19);
        boolean told = few && what >= 10 && what < 10 + s.size();
        due("seats" + on + " " + what, x.seats(school, plan, what), told ? best[what - 10] == p.size() ? -1 : best[what - 10] : -2);
    }

    /** By a PLAN and a LEARNER, a TEACHER, a number or another PLAN. */
    private boolean askByOne(int call, int school, int plan) {
        boolean goes = goes(school, plan);
        Second.School s = school(school);
        List<Second.Course> p = goes ? w.plans.get(plan) : null;
        int a = pick(0, call == 20 || call == 40 ? (s == null ? 4 : s.teachers.size() - 1) : call == 23 ? 12
                : call == 31 ? 2 : call == 35 ? 11 : s == null ? 15 : s.size() - 1);
        String on = " " + school + " " + plan + " " + a;
        boolean isLearner = goes && a >= 0 && a < s.size();
        boolean isTeacher = goes && a >= 0 && a < s.teachers.size();
        switch (call) {
            case 17:
                due("test" + on, x.test(school, plan, a), isLearner ? Second.test(s, p, a) : -1);
                return true;
            case 20:
                due("ill" + on, x.ill(school, plan, a), isTeacher ? Second.ill(s, p, a) : -1);
                return true;
            case 23:
                due("ladder" + on, x.ladder(school, plan, a), goes && a >= 1 && a <= 12 ? Second.ladder(s, p, a) : -1);
                return true;
            case 31:
                boolean both = goes && goes(school, a);
                due("order" + on, x.order(school, plan, a), both ? Second.order(s, p, w.plans.get(a)) : -1);
                return true;
            case 32:
                due("let" + on, x.let(school, plan, a), isLearner ? Second.let(s, p, a) : -1);
                return true;
            case 35:
                due("open" + on, x.open(school, plan, a), goes && a >= 0 && a <= 11 ? Second.open(s, p, a) : -1);
                return true;
            case 40:
                due("busy" + on, x.busy(school, plan, a), isTeacher ? Second.busy(s, p, a) : -1);
                return true;
            default:
                return false;
        }
    }

    /** Of a CLASS. */
    private void askClass(int call, int school, int plan) {
        boolean goes = goes(school, plan);
        Second.School s = school(school);
        List<Second.Course> p = goes ? w.plans.get(plan) : null;
        int k = pick(0, p == null ? 5 : p.size() - 1);
        int l = pick(0, s == null ? 15 : s.size() - 1);
        Second.Course c = goes && k >= 0 && k < p.size() ? p.get(k) : null;
        boolean isLearner = c != null && l >= 0 && l < s.size();
        String on = " " + school + " " + plan + " " + k;
        switch (call) {
            case 9:
                due("fit" + on + " " + l, x.fit(school, plan, k, l), isLearner ? Second.fit(s, c, s.learners.get(l).step,
                        Second.steps(s, c.sits, l)) : -1);
                break;
            case 10:
                askLearnt(school, plan, k, l);
                break;
            case 24:
                askBeside(on, school, plan, k, l, c);
                break;
            case 28:
                int step = pick(0, 11);
                due("more" + on + " " + step, x.more(school, plan, k, step), c != null && step >= 0 && step <= 11
                        ? Second.more(s, c, step) : Second.NO_SUM);
                break;
            case 30:
                due("shift" + on, x.shift(school, plan, k), c != null ? Second.bestStep(s, c, c.sits)[0] : -1);
                break;
            case 33:
                int n = pick(0, 12);
                due("june" + on + " " + l + " " + n, x.june(school, plan, k, l, n), isLearner && n >= 0 && n <= 12
                        ? Second.june(s, c, l, n) : -1);
                break;
            case 38:
                due("spread" + on, x.spread(school, plan, k), c != null ? Second.spread(s, c) : -1);
                break;
            default:
                askWeeks(call, school, plan, k);
        }
    }

    private void askLearnt(int school, int plan, int k, int l) {
        int of = r.nextInt(3) == 0 ? -1 : k;
        int by = r.nextInt(3) == 0 || of == -1 ? -1 : l;
        int want = -1;
        if (goes(school, plan)) {
            Second.School s = school(school);
            List<Second.Course> p = w.plans.get(plan);
            if (of == -1 && by == -1) {
                want = Second.learnt(s, p);
            } else if (of >= 0 && of < p.size()) {
                Second.Course c = p.get(of);
                want = by == -1 ? Second.by(s, c, c.sits) : c.sits.contains(by) ? Second.learntOf(s, c, by) : -1;
            }
        }
        due("learnt " + school + " " + plan + " " + of + " " + by, x.learnt(school, plan, of, by), want);
    }

    /** All ways of more than ten take long: they are for NaiveTest. */
    private void askBeside(String on, int school, int plan, int k, int l, Second.Course c) {
        boolean told = c != null && c.sits.size() <= 12;
        if (told && c.sits.size() > 10) {
            return;
        }
        int[] want = told ? Second.beside(school(school), c) : null;
        due("beside" + on + " -1", x.beside(school, plan, k, -1), told ? want[16] : -2);
        for (int m = 0; told && m < 16; m++) {
            if (c.sits.contains(m)) {
                due("beside" + on + " " + m, x.beside(school, plan, k, m), want[m]);
            }
        }
        boolean there = told && (l == -1 || c.sits.contains(l));
        due("beside" + on + " " + l, x.beside(school, plan, k, l), there ? want[l == -1 ? 16 : l] : -2);
    }

    private void askWeeks(int call, int school, int plan, int k) {
        boolean goes = goes(school, plan);
        Second.School s = school(school);
        List<Second.Course> p = goes ? w.plans.get(plan) : new ArrayList<>();
        boolean isClass = goes && k >= 0 && k < p.size();
        int seed = r.nextBoolean() ? r.nextInt() : pick(0, 9);
        int[] ended = new int[7];
        if (call == 25) {
            int n = pick(0, s == null ? 10 : s.weeks);
            int of = r.nextInt(4) == 0 ? -1 : k;
            int want = -1;
            if (goes && n >= 0 && n <= s.weeks && (of == -1 || isClass)) {
                want = 0;
                List<Second.Course> then = Second.weeks(s, p, seed, n, ended);
                for (int i = 0; i < then.size(); i++) {
                    want += of == -1 || of == i ? then.get(i).sits.size() : 0;
                }
            }
            due("weeks " + school + " " + plan + " " + seed + " " + n + " " + of, x.weeks(school, plan, seed, n, of), want);
        } else if (call == 26) {
            if (isClass) {
                Second.weeks(s, p, seed, s.weeks, ended);
            }
            due("ended " + school + " " + plan + " " + seed + " " + k, x.ended(school, plan, seed, k), isClass ? ended[k] : -1);
        } else if (call == 37) {
            int n = pick(1, 8);
            due("holds " + school + " " + plan + " " + seed + " " + n + " " + k, x.holds(school, plan, seed, n, k),
                    isClass && n >= 1 && n <= 8 ? Second.holds(s, p, seed, n, k) : -1);
        }
    }

    private void ask(int call) {
        int school = pick(0, w.schools.size() - 1);
        int plan = pick(0, w.plans.size() - 1);
        for (int i = 0; i < 9 && r.nextInt(9) > 0 && !asksMuch(school, plan); i++) {
            school = r.nextInt(3);
            plan = r.nextInt(3);
        }
        switch (call) {
            case 0:
                feed(new int[] {r.nextInt(), r.nextInt(), r.nextInt(), r.nextInt(), r.nextInt()});
                return;
            case 1:
                end(pick(0, w.tape.length()));
                return;
            case 2:
                text(pick(0, 1), pick(-1, 2));
                return;
            case 3:
                int what = pick(0, 1);
                due("fault " + what, x.fault(what), what == 0 ? w.fault : what == 1 ? w.place : -1);
                return;
            case 6:
                int k = pick(-1, 5);
                int of = pick(0, 5);
                due("plan " + plan + " " + k + " " + of, x.plan(plan, k, of), planOf(plan, k, of));
                return;
            case 8:
                askSit(plan, pick(0, plan >= 0 && plan < w.plans.size() ? w.plans.get(plan).size() - 1 : 5),
                        pick(0, school(school) == null ? 15 : school(school).size() - 1));
                return;
            case 42:
                int sort = pick(0, 1);
                due("count " + sort, x.count(sort), sort == 0 ? w.schools.size() : sort == 1 ? w.plans.size() : -2);
                return;
            case 43:
            case 44:
                askImages(call == 44);
                return;
            default:
                if (!askSchool(call, school) && !askPlan(call, school, plan) && !askByOne(call, school, plan)) {
                    askClass(call, school, plan);
                }
        }
    }

    private void run() {
        tell(0);
        tell(0);
        tell(1);
        tell(1);
        while (calls < CALLS - 100) {
            int sort = r.nextInt(anyAsksMuch() ? 150 : 15);
            if (sort < 2) {
                call = 2;
                tell(sort);
                continue;
            }
            call = r.nextInt(45);
            if (call == 2 && r.nextInt(6) > 0) {
                continue;
            }
            ask(call);
        }
        if (calls > CALLS) {
            wrong++;
            System.out.println("a run of " + calls + " calls");
        }
    }

    public static void main(String[] args) {
        int runs = args.length > 0 ? Integer.parseInt(args[0]) : 800;
        for (int seed = 1; seed <= runs; seed++) {
            new RunsTest(seed).run();
        }
        for (int call = 0; call < 45; call++) {
            if (told[call] < runs / 5) {
                wrong++;
                System.out.println("call " + call + " is seldom answered by more than NONE: " + told[call]);
            }
        }
        System.out.println(runs + " runs, " + compared + " answers compared, " + wrong + " are not as due");
        if (wrong != 0) {
            System.exit(1);
        }
    }
}
