import java.util.Arrays;

/** The boundaries of what a PLAN is asked: promises 6 to 22, and each range of an argument. */
public final class EdgesOfPlansTest extends Edges {
    private static void promise6() {
        SchoolDoors x = with(times(5, "teacher 7 2;") + TABLE);
        text(x, 0, -1, "");
        text(x, 0, -1, "teacher 63 3;rooms 3;");
        int[] none = {-1, 13, 14, 19, 25, 29, 35, 39, 47, 48, 49, 57, 58, 60, MIN, MAX};
        for (int what : none) {
            due("6 another what: " + what, x.about(0, what), -1);
        }
        due("6 TEACHER 4", x.about(0, 24) * 10 + x.about(0, 34), 72);
        due("6 TEACHER 0 of none", x.about(1, 20), -1);
        due("6 his BREADTH", x.about(1, 30), -1);
        due("6 TEACHER 0 of one", x.about(2, 20) * 10 + x.about(2, 30), 633);
        due("6 TEACHER 1 of one", x.about(2, 21), -1);
        due("6 his BREADTH", x.about(2, 31), -1);
        int[] gains = {5, 10, 20, 40, 61, 30, 9};
        int[] stays = {30, 40, 50, 90, 80, 70, 60};
        for (int d = -3; d <= 3; d++) {
            due("6 what is learnt " + d + " above", x.about(0, 43 + d), gains[d + 3]);
            due("6 STAY " + d + " above", x.about(0, 53 + d), stays[d + 3]);
        }
        due("6 of the last SCHOOL", x.about(2, 6), 3);
        for (int school : new int[] {-1, 3, MIN, MAX}) {
            due("6 none such: " + school, x.about(school, 0), -1);
        }
    }

    private static void promise7() {
        SchoolDoors x = with(learners(15) + "learner 11 63 999;couple 15 0;perhaps 15 100;");
        int[] last = {11, 63, 999, 0, 100};
        for (int what = 0; what < 5; what++) {
            due("7 LEARNER 15, what " + what, x.learner(0, 15, what), last[what]);
        }
        due("7 his PARTNER", x.learner(0, 0, 3), 15);
        due("7 NONE", x.learner(0, 1, 3), -1);
        due("7 0 without", x.learner(0, 14, 4), 0);
        for (int n : new int[] {-1, 16, MIN, MAX}) {
            due("7 no LEARNER " + n, x.learner(0, n, 0), -2);
        }
        for (int n : new int[] {-1, 1, MIN, MAX}) {
            due("7 no SCHOOL " + n, x.learner(n, 0, 0), -2);
        }
        for (int n : new int[] {-1, 5, MIN, MAX}) {
            due("7 another what: " + n, x.learner(0, 0, n), -2);
        }
        text(x, 0, -1, "learner 1 1 1;");
        due("7 LEARNER 0 of one", x.learner(1, 0, 0), 1);
        due("7 LEARNER 1 of one", x.learner(1, 1, 0), -2);
        text(x, 0, -1, "");
        due("7 LEARNER 0 of none", x.learner(2, 0, 0), -2);
    }

    private static void promise8() {
        SchoolDoors x = with("", times(5, "even 0 0 0;") + "two 4 5 11 0;" + sits(0, 15), "", "pairs 1 2 3;");
        int[] last = {1, 4, 5, 11, 0, 65535};
        for (int what = 0; what < 6; what++) {
            due("8 CLASS 5, what " + what, x.plan(0, 5, what), last[what]);
        }
        due("8 the second step, NONE", x.plan(2, 0, 4), -1);
        due("8 6 CLASSES", x.plan(0, -1, 0), 6);
        due("8 no CLASSES", x.plan(1, -1, 0), 0);
        due("8 one CLASS", x.plan(2, -1, 0), 1);
        due("8 CLASS 0 of none", x.plan(1, 0, 0), -2);
        due("8 CLASS 1 of one", x.plan(2, 1, 0), -2);
        for (int n : new int[] {-2, 6, MIN, MAX}) {
            due("8 no CLASS " + n, x.plan(0, n, 0), -2);
        }
        for (int n : new int[] {-1, 6, MIN, MAX}) {
            due("8 another what: " + n, x.plan(0, 0, n), -2);
        }
        for (int n : new int[] {-1, 1, 5, MIN, MAX}) {
            due("8 another what of the PLAN: " + n, x.plan(0, -1, n), -2);
        }
        for (int n : new int[] {-1, 3, MIN, MAX}) {
            due("8 no PLAN " + n, x.plan(n, -1, 0), -2);
            due("8 nor CLASS of it", x.plan(n, 0, 0), -2);
        }
    }

    private static void promise10() {
        SchoolDoors x = with("", times(6, "even 0 0 0;"), "", "");
        for (int learner : new int[] {0, 15}) {
            due("10 not there", x.sit(0, 5, learner, false), false);
            due("10 new", x.sit(0, 5, learner, true), true);
            due("10 SITS there", x.plan(0, 5, 5), learner == 0 ? 1 : 32769);
            due("10 not new", x.sit(0, 5, learner, true), false);
        }
        due("10 goes", x.sit(0, 5, 0, false), true);
        due("10 the other one stays", x.plan(0, 5, 5), 32768);
        due("10 in no other CLASS", x.plan(0, 4, 5), 0);
        String before = told(x);
        int[][] none = {{0, 0, -1}, {0, 0, 16}, {0, 0, 31}, {0, 0, 32}, {0, 0, MIN}, {0, 0, MAX}, {0, -1, 0}, {0, 6,
                0}, {0, MIN, 0},
            {0, MAX, 0}, {-1, 0, 0}, {3, 0, 0}, {MIN, 0, 0}, {MAX, 0, 0}, {1, 0, 0}, {0, 5, 47}};
        for (int[] n : none) {
            due("10 none such " + Arrays.toString(n), x.sit(n[0], n[1], n[2], true), false);
            due("10 none such " + Arrays.toString(n), x.sit(n[0], n[1], n[2], false), false);
        }
        due("10 nothing came", told(x).equals(before), true);
    }

    /**
     * What every question about a SCHOOL and a PLAN answers if the PLAN does not GO or there is none
     * such: also its other arguments' ranges, of a CLASS, a LEARNER, ..
     */
    private interface Question {
        int of(SchoolDoors x, int school, int plan, int a);
    }

    private static void asks(String name, int refused, int least, int most, Question q) {
        SchoolDoors x = with(learners(3) + "teacher 1 0;teacher 1 0;perhaps 0 50;tell 1;" + TABLE,
                "even 0 0 5;sits 0;even 1 0 5;sits 1;", "even 2 0 5;", "even 0 0 5;sits 3;");
        String before = state(x);
        int good = least < 0 ? 0 : least;
        due(name + " of what there is", q.of(x, 0, 0, good) != refused, true);
        for (int plan : new int[] {1, 2, -1, 3, MIN, MAX}) {
            due(name + " of PLAN " + plan, q.of(x, 0, plan, good), refused);
        }
        for (int school : new int[] {-1, 1, MIN, MAX}) {
            due(name + " of SCHOOL " + school, q.of(x, school, 0, good), refused);
        }
        if (most < MAX) {
            due(name + " by the least, " + least, q.of(x, 0, 0, least) != refused, true);
            due(name + " by the most, " + most, q.of(x, 0, 0, most) != refused, true);
            for (int a : new int[] {least - 1, most + 1, MIN, MAX}) {
                due(name + " by another one, " + a, q.of(x, 0, 0, a), refused);
            }
        }
        due(name + " changes nothing", state(x).equals(before), true);
    }

    private static void asksOfPlans() {
        asks("11 fit, CLASS", -1, 0, 1, (x, s, p, a) -> x.fit(s, p, a, 0));
        asks("11 fit, LEARNER", -1, 0, 2, (x, s, p, a) -> x.fit(s, p, 0, a));
        asks("12 learnt of the PLAN", -1, 0, MAX, (x, s, p, a) -> x.learnt(s, p, -1, -1));
        asks("12 learnt of a CLASS", -1, -1, 1, (x, s, p, a) -> x.learnt(s, p, a, -1));
        asks("12 learnt, LEARNER", -1, -1, 0, (x, s, p, a) -> x.learnt(s, p, 0, a));
        asks("13 wrong", -1, 0, 0, (x, s, p, a) -> x.wrong(s, p, a));
        asks("14 home", -1, 0, MAX, (x, s, p, a) -> x.home(s, p));
        asks("15 coin", NO_SUM, 0, MAX, (x, s, p, a) -> x.coin(s, p));
        asks("17 seats", -2, 0, 0, (x, s, p, a) -> x.seats(s, p, a));
        asks("17 seats, LEARNER", -2, 10, 12, (x, s, p, a) -> x.seats(s, p, a));
        asks("18 fewest", -1, 0, MAX, (x, s, p, a) -> x.fewest(s, p));
        asks("19 test, LEARNER", -1, 0, 2, (x, s, p, a) -> x.test(s, p, a));
        asks("22 ill, TEACHER", -1, 0, 1, (x, s, p, a) -> x.ill(s, p, a));
        asks("25 ladder, n", -1, 1, 12, (x, s, p, a) -> x.ladder(s, p, a));
        asks("26 beside, CLASS", -2, 0, 1, (x, s, p, a) -> x.beside(s, p, a, -1));
        asks("26 beside, LEARNER", -2, -1, 0, (x, s, p, a) -> x.beside(s, p, 0, a));
        asks("27 weeks", -1, 0, 10, (x, s, p, a) -> x.weeks(s, p, 1, a, 0));
        asks("27 weeks, in all", -1, 0, 10, (x, s, p, a) -> x.weeks(s, p, 1, a, -1));
        asks("27 weeks, CLASS", -1, -1, 1, (x, s, p, a) -> x.weeks(s, p, 1, 1, a));
        asks("30 more, CLASS", NO_SUM, 0, 1, (x, s, p, a) -> x.more(s, p, a, 5));
        asks("30 more, STEP", NO_SUM, 0, 11, (x, s, p, a) -> x.more(s, p, 0, a));
        asks("32 shift, CLASS", -1, 0, 1, (x, s, p, a) -> x.shift(s, p, a));
        asks("33 order, the first", -1, 0, MAX, (x, s, p, a) -> x.order(s, p, 0));
        asks("33 order, the second", -1, 0, MAX, (x, s, p, a) -> x.order(s, 0, p));
        asks("34 let, LEARNER", -1, 2, 2, (x, s, p, a) -> x.let(s, p, a));
        asks("35 june, CLASS", -1, 0, 1, (x, s, p, a) -> x.june(s, p, a, 0, 1));
        asks("35 june, LEARNER", -1, 0, 2, (x, s, p, a) -> x.june(s, p, 0, a, 1));
        asks("35 june, n", -1, 0, 12, (x, s, p, a) -> x.june(s, p, 0, 0, a));
        asks("36 merge", NO_SUM, 0, 2, (x, s, p, a) -> x.merge(s, p, a));
        asks("39 holds, w", -1, 1, 8, (x, s, p, a) -> x.holds(s, p, 1, a, 0));
        asks("39 holds, CLASS", -1, 0, 1, (x, s, p, a) -> x.holds(s, p, 1, 1, a));
        asks("40 spread, CLASS", -1, 0, 1, (x, s, p, a) -> x.spread(s, p, a));
        asks("41 toll", -1, 0, MAX, (x, s, p, a) -> x.toll(s, p));
        asks("42 busy, TEACHER", -1, 0, 1, (x, s, p, a) -> x.busy(s, p, a));
        asks("43 pass", -1, 0, MAX, (x, s, p, a) -> x.pass(s, p));
    }

    /** Those that answer the refusal also for what there is in the plain school, or only there. */
    private static void asksOfOthers() {
        SchoolDoors x = with(TABLE + "above 2 30 0;learner 5 3 9;learner 4 3 9;learner 5 3 9;perhaps 0 50;teacher 3 0;"
                + "teacher 3 0;teacher 3 0;", "even 0 0 7;sits 0;even 1 0 6;sits 1;", "even 3 0 5;", "even 0 0 5;sits 3;");
        String before = state(x);
        due("20 whom", x.whom(0, 0), 0);
        due("21 move, LEARNER", x.move(0, 0, 0), 0);
        due("21 move, CLASS", x.move(0, 0, 1), 1);
        due("21 move, by how much", x.move(0, 0, 2), 31);
        due("28 ended", x.ended(0, 0, 1, 0), 1);
        due("28 ended", x.ended(0, 0, 1, 1), 1);
        due("37 open", x.open(0, 0, 2), 0);
        due("37 open, 4 above", x.open(0, 0, 9), -1);
        for (int plan : new int[] {1, 2, -1, 3, MIN, MAX}) {
            due("20 whom of PLAN " + plan, x.whom(0, plan), -1);
            due("21 move of PLAN " + plan, x.move(0, plan, 0), -1);
            due("28 ended of PLAN " + plan, x.ended(0, plan, 1, 0), -1);
            due("37 open of PLAN " + plan, x.open(0, plan, 2), -1);
        }
        for (int school : new int[] {-1, 1, MIN, MAX}) {
            due("20 whom of SCHOOL " + school, x.whom(school, 0), -1);
            due("21 move of SCHOOL " + school, x.move(school, 0, 0), -1);
            due("28 ended of SCHOOL " + school, x.ended(school, 0, 1, 0), -1);
            due("37 open of SCHOOL " + school, x.open(school, 0, 2), -1);
            due("16 line of SCHOOL " + school, x.line(school, 1, 0), -1);
            due("23 fills of SCHOOL " + school, x.fills(school, false), -1);
            due("23 pays of SCHOOL " + school, x.fills(school, true), -1);
            due("29 lacks of SCHOOL " + school, x.lacks(school, 0), -1);
            due("31 lonely of SCHOOL " + school, x.lonely(school), -1);
            due("38 off of SCHOOL " + school, x.off(school, 0), -1);
        }
        for (int a : new int[] {-1, 3, MIN, MAX}) {
            due("21 another what: " + a, x.move(0, 0, a), -1);
        }
        for (int a : new int[] {-1, 2, MIN, MAX}) {
            due("28 no CLASS " + a, x.ended(0, 0, 1, a), -1);
        }
        due("all as before", state(x).equals(before), true);
    }

    // ---- Terms 2: FIT, LEARNT, WRONG, HOME, COIN

    private static void fits(String sentence, String rules, int step, String plan, int... want) {
        SchoolDoors x = with(TABLE + "learner " + step + " 1 1;learner 5 1 1;" + rules
                + "teacher 1 0;teacher 1 1;teacher 1 2;teacher 1 3;", plan);
        for (int k = 0; k < want.length; k++) {
            due(sentence + ": STEP " + step + ", CLASS " + k + " of " + plan, x.fit(0, 0, k, 0), want[k]);
        }
    }

    private static void promise11() {
        fits("0, if they are more than 3 apart", "", 5, "even 0 0 1;even 0 0 2;even 0 0 3;even 0 0 7;even 0 0 8;even 0 0 9;",
                0, 5, 10, 30, 9, 0);
        fits("less the STEP", "", 5, "even 0 0 4;even 0 0 5;even 0 0 6;", 20, 40, 61);
        fits("at the lowest STEP", "", 0, "even 0 0 0;even 0 0 3;even 0 0 4;even 0 0 11;", 40, 9, 0, 0);
        fits("at the highest STEP", "", 11, "even 0 0 11;even 0 0 8;even 0 0 7;even 0 0 0;", 40, 5, 0, 0);
        fits("TWO: BASES together, by 2, cut", "", 5, "two 0 0 5 6;two 0 0 6 5;two 0 0 8 9;two 0 0 1 8;two 0 0 1 9;two 0 0 2 2;",
                50, 50, 4, 4, 0, 5);
        fits("BROAD: the STEP itself, if it is no further", "", 5, "broad 0 0 5;broad 1 0 6;broad 2 0 7;broad 3 0 8;broad 1 0 4;"
                + "broad 3 0 2;", 40, 40, 40, 40, 40, 40);
        fits("BROAD: one further than the BREADTH", "", 5, "broad 0 0 6;broad 1 0 7;broad 2 0 8;broad 3 0 9;broad 1 0 3;"
                + "broad 3 0 1;", 61, 61, 61, 61, 20, 20);
        fits("BROAD: nearer than the BREADTH", "", 5, "broad 3 0 5;broad 3 0 6;broad 3 0 4;broad 2 0 6;broad 2 0 3;", 40, 40, 40,
                40, 40);
        fits("BROAD: 3 apart behind BREADTH 3", "", 5, "broad 3 0 11;broad 2 0 10;broad 1 0 9;", 9, 9, 9);
        fits("BROAD: 4 apart behind BREADTH 3", "", 4, "broad 3 0 11;broad 2 0 10;broad 1 0 9;", 0, 0, 0);
        fits("BROAD: 3 apart from below", "", 11, "broad 3 0 5;broad 2 0 6;broad 1 0 7;broad 0 0 8;", 5, 5, 5, 5);
        fits("BROAD: 4 apart from below", "", 11, "broad 3 0 4;broad 2 0 5;broad 1 0 6;broad 0 0 7;", 0, 0, 0, 0);
        int[][] longs = {{0, 0}, {1, 0}, {2, 1}, {99, 60}, {100, 61}, {101, 61}, {102, 62}, {199, 121}, {200, 122}};
        for (int[] l : longs) {
            fits("LONG: BASE * LONG / 100, cut", "long " + l[0] + ";", 5, "long 0 0 6;even 0 0 6;", l[1], 61);
        }
        fits("LONG of the most", "above 0 99 0;long 200;", 5, "long 0 0 5;long 0 0 9;", 198, 0);
        fits("TELL, if another one's STEP is one lower", "tell 7;", 6,
                "pairs 0 0 6;sits 1;pairs 0 0 6;even 0 0 6;sits 1;", 47, 40, 40);
        fits("one higher", "tell 7;", 4, "pairs 0 0 4;sits 1;pairs 0 0 4;sits 0 1;pairs 0 0 4;sits 0;", 47, 47, 40);
        fits("alike: no TELL", "tell 7;", 5, "pairs 0 0 5;sits 1;pairs 0 0 5;sits 0 1;", 40, 40);
        fits("two higher: none", "tell 7;", 3, "pairs 0 0 3;sits 0 1;", 40);
        fits("two lower: none", "tell 7;", 7, "pairs 0 0 7;sits 0 1;", 40);
        fits("TELL without a BASE", "tell 99;", 6, "pairs 0 0 10;sits 1;pairs 0 0 10;", 99, 0);
        fits("TELL of another kind: none", "tell 7;", 6, "two 0 0 6 6;sits 1;broad 0 0 6;sits 1;long 0 0 6;sits 1;", 40, 40, 40);
        SchoolDoors x = with("above 0 99 1;tell 99;learner 0 1 1;learner 11 1 1;learner 1 1 1;learner 10 1 1;teacher 1 0;",
                "pairs 0 0 0;sits 1;pairs 0 0 0;sits 2;pairs 0 0 11;sits 0;pairs 0 0 11;sits 3;pairs 0 0 11;sits 1 2;");
        due("11 no STEP one lower than 0", x.fit(0, 0, 0, 0), 99);
        due("11 one higher than 0: the most", x.fit(0, 0, 1, 0), 198);
        due("11 no STEP one higher than 11", x.fit(0, 0, 2, 1), 99);
        due("11 one lower than 11", x.fit(0, 0, 3, 1), 198);
        due("11 he himself is no other one", x.fit(0, 0, 4, 1), 99);
        SchoolDoors y = with("learner 1 1 1;".repeat(16) + "teacher 1 0;above 0 5 1;", "even 0 0 1;");
        due("11 LEARNER 15", y.fit(0, 0, 0, 15), 5);
        due("11 LEARNER 16", y.fit(0, 0, 0, 16), -1);
    }

    /** The first of n alike, BASE 61, by CROWD. */
    private static void crowd(String sentence, int easy, int less, int n, int each) {
        SchoolDoors x = with("above 1 61 1;crowd " + easy + " " + less + ";teacher 1 0;" + learners(n),
                "even 0 0 6;" + sits(0, n - 1));
        String told = sentence + ": EASY " + easy + ", LESS " + less + ", n " + n;
        due(told, x.learnt(0, 0, 0, 0), each);
        due(told + ", by all there", x.learnt(0, 0, 0, -1), n * each);
        due(told + ", of the PLAN", x.learnt(0, 0, -1, -1), n * each);
    }

    private static void promise12() {
        crowd("n - EASY, 0 at least", 15, 20, 1, 61);
        crowd("n - EASY, 0 at least", 2, 20, 1, 61);
        crowd("n as EASY", 2, 20, 2, 61);
        crowd("one more than EASY", 2, 20, 3, 48);
        crowd("100 less 95", 15, 20, 15, 61);
        crowd("one more than EASY 15", 15, 20, 16, 48);
        crowd("LESS 1", 2, 1, 3, 60);
        crowd("LESS 0", 1, 0, 16, 61);
        crowd("20 are left", 1, 20, 5, 12);
        crowd("0 at least: just 0", 1, 20, 6, 0);
        crowd("0 at least: below", 1, 20, 7, 0);
        crowd("0 at least: far below", 1, 20, 16, 0);
        crowd("5 are left", 1, 19, 6, 3);
        crowd("2 are left", 2, 7, 16, 1);
        String longs = "above 0 99 1;long 200;crowd 1 20;teacher 1 0;" + learners(7);
        SchoolDoors v = with(longs, "long 0 0 5;" + sits(0, 4), "long 0 0 5;" + sits(0, 5), "long 0 0 5;" + sits(0, 6));
        due("12 20 of 100 of FIT 198", v.learnt(0, 0, 0, 0), 39);
        due("12 0 of 100 of FIT 198", v.learnt(0, 1, 0, 0), 0);
        due("12 not below", v.learnt(0, 2, 0, -1), 0);
        SchoolDoors x = with("above 0 40 1;above 1 61 1;crowd 1 10;teacher 1 0;learner 5 1 9;learner 5 1 9;learner 6 1 9;tell 5;",
                "even 0 0 6;sits 0 1;even 0 0 6;sits 0;pairs 0 0 6;sits 0 2;even 0 0 5;");
        due("12 each by himself is cut", x.learnt(0, 0, 0, -1), 54 + 54);
        due("12 in all CLASSES", x.learnt(0, 0, -1, -1), 108 + 61 + (59 + 40));
        due("12 PAIRS: FIT with TELL, less", x.learnt(0, 0, 2, 0), 66 * 90 / 100);
        due("12 the other one", x.learnt(0, 0, 2, 2), 45 * 90 / 100);
        due("12 nobody", x.learnt(0, 0, 3, -1), 0);
        due("12 he does not SIT there", x.learnt(0, 0, 1, 1), -1);
        due("12 nor in an empty one", x.learnt(0, 0, 3, 0), -1);
        due("12 k NONE alone", x.learnt(0, 0, -1, 0), -1);
        SchoolDoors y = with("", "");
        due("12 nothing", y.learnt(0, 0, -1, -1), 0);
        due("12 no CLASS", y.learnt(0, 0, 0, -1), -1);
        SchoolDoors z = with("above 0 99 1;long 200;teacher 1 0;" + learners(16), times(6, "long 0 0 5;" + sits(0, 15)));
        due("12 the most there is", z.learnt(0, 0, -1, -1), 6 * 16 * 198);
    }

    private static final String WRONGS = "learner 1 1 9;learner 1 3 5;learner 1 3 4;learner 1 63 9;learner 1 63 9;learner 1 63 9;"
            + "couple 3 4;teacher 7 0;teacher 15 0;teacher 7 0;size 2 3;rooms 2;fee 5;";

    private static void wrongs(String sentence, String school, String plan, int which, int k, int who) {
        SchoolDoors x = with(school, plan);
        due(sentence + ": which of " + plan, x.wrong(0, 0, 0), which);
        due(sentence + ": the CLASS of " + plan, x.wrong(0, 0, 1), k);
        due(sentence + ": the LEARNER of " + plan, x.wrong(0, 0, 2), who);
        for (int what : new int[] {-1, 3, MIN, MAX}) {
            due(sentence + ": another what", x.wrong(0, 0, what), -1);
        }
    }

    private static void promise13() {
        String pair = "sits 3 4;";
        wrongs("nothing of nothing", "", "", 0, -1, -1);
        wrongs("nothing", WRONGS, "even 0 0 1;sits 0 1;even 0 1 1;" + pair, 0, -1, -1);
        wrongs("1 has that EVENING", WRONGS, "even 1 3 1;" + pair, 0, -1, -1);
        wrongs("1 has it not", WRONGS, "even 0 3 1;" + pair, 1, 0, -1);
        wrongs("1 EVENING 5", WRONGS, "even 0 0 1;sits 0 1;even 1 5 1;", 1, 1, -1);
        wrongs("2 on another EVENING", WRONGS, "even 0 0 1;sits 0 1;even 0 1 1;" + pair, 0, -1, -1);
        wrongs("2 on that EVENING", WRONGS, "even 0 1 1;" + pair + "even 0 0 1;sits 0 1;even 0 1 1;", 2, 2, -1);
        wrongs("2 another TEACHER's", WRONGS, "even 1 0 1;sits 0 1;even 0 0 1;" + pair, 0, -1, -1);
        wrongs("2 ahead of 3", WRONGS.replace("rooms 2", "rooms 1"), "even 0 0 1;sits 0 1;even 0 0 1;", 2, 1, -1);
        wrongs("3 as many as ROOMS", WRONGS, "even 0 0 1;sits 0 1;even 1 0 1;" + pair + "even 2 0 1;", 3, 2, -1);
        wrongs("3 one fewer", WRONGS, "even 0 0 1;sits 0 1;even 1 0 1;" + pair, 0, -1, -1);
        wrongs("3 on another EVENING", WRONGS, "even 0 0 1;sits 0 1;even 1 0 1;" + pair + "even 2 1 1;", 4, 2, -1);
        wrongs("3 ROOMS 1", WRONGS.replace("rooms 2", "rooms 1"), "even 0 0 1;sits 0 1;even 1 0 1;" + pair, 3, 1, -1);
        wrongs("3 ahead of 4", WRONGS.replace("rooms 2", "rooms 1"), "even 0 0 1;sits 0 1;even 1 0 1;", 3, 1, -1);
        wrongs("4 fewer than LEAST", WRONGS, "even 0 0 1;sits 0;", 4, 0, -1);
        wrongs("4 LEAST", WRONGS, "even 0 0 1;sits 0 1;", 0, -1, -1);
        wrongs("4 nobody", WRONGS, "even 0 0 1;", 4, 0, -1);
        wrongs("4 nobody of LEAST 1", WRONGS + "size 1 1;", "even 0 0 1;", 4, 0, -1);
        wrongs("4 one of LEAST 1", WRONGS + "size 1 1;", "even 0 0 1;sits 0;", 0, -1, -1);
        wrongs("5 MOST", WRONGS, "even 0 0 1;sits 0 1 5;", 0, -1, -1);
        wrongs("5 more than MOST", WRONGS, "even 0 0 1;sits 0 1 3 4;", 5, 0, -1);
        wrongs("5 ahead of 6", WRONGS, "even 0 1 1;sits 0 1 3 4;", 5, 0, -1);
        wrongs("4 ahead of 6", WRONGS, "even 0 1 1;sits 0;", 4, 0, -1);
        String six = "learner 1 32 9;learner 1 31 9;teacher 63 0;";
        wrongs("6 EVENING 5", six, "even 0 5 1;sits 0;", 0, -1, -1);
        wrongs("6 not EVENING 5", six, "even 0 5 1;sits 1;", 6, 0, 1);
        wrongs("6 EVENING 4", six, "even 0 4 1;sits 1;", 0, -1, -1);
        wrongs("6 not EVENING 4", six, "even 0 4 1;sits 0;", 6, 0, 0);
        wrongs("6 ahead of 7", WRONGS + "size 1 3;", "even 0 0 1;sits 0;even 0 1 1;sits 0;", 6, 1, 0);
        wrongs("7 ahead, too", WRONGS, "even 0 0 1;sits 0 1;even 0 1 1;sits 1 5;", 7, 1, 1);
        wrongs("7 two ahead", WRONGS, "even 0 0 1;sits 0 1;even 0 1 1;sits 3 4;even 0 2 1;sits 3 4;", 7, 2, 3);
        wrongs("7 at a PRICE of FEE", WRONGS + "size 1 3;fee 4;", "even 0 0 1;sits 2;even 0 1 1;sits 2;", 7, 1, 2);
        wrongs("8 a PRICE of FEE", WRONGS, "even 0 1 1;sits 1 5;", 0, -1, -1);
        wrongs("8 a PRICE below FEE", WRONGS, "even 0 1 1;sits 1 2;", 8, 0, 2);
        wrongs("8 ahead of 9", WRONGS + "couple 2 3;", "even 0 0 1;sits 0 2;", 8, 0, 2);
        wrongs("9 PARTNER at home", WRONGS, "even 0 0 1;sits 0 4;", 9, 0, 4);
        wrongs("9 PARTNER elsewhere", WRONGS, "even 0 0 1;sits 0 3;even 1 0 1;sits 1 4;", 9, 0, 3);
        wrongs("9 both at home", WRONGS, "even 0 0 1;sits 0 1;", 0, -1, -1);
        wrongs("by numbers, not by sorts", WRONGS + "couple 0 5;", "even 0 0 1;sits 0 2;", 9, 0, 0);
        wrongs("by numbers", WRONGS, "even 0 1 1;sits 0 2 3;", 6, 0, 0);
        wrongs("CLASSES from 0 on", WRONGS, "even 0 0 1;sits 0 4;even 0 5 1;", 9, 0, 4);
        wrongs("LEARNER 15", learners(16) + "fee 10;teacher 1 0;", "even 0 0 1;sits 15;", 8, 0, 15);
        wrongs("1 in CLASS 5", times(5, "learner 1 63 1;") + "teacher 31 0;",
                "even 0 0 1;sits 0;even 0 1 1;sits 1;even 0 2 1;sits 2;"
                + "even 0 3 1;sits 3;even 0 4 1;sits 4;even 0 5 1;", 1, 5, -1);
    }

    private static void promises14And15() {
        SchoolDoors x = with(learners(16) + "teacher 1 0;fee 999;cost 999;", times(6, "even 0 0 1;" + sits(0, 15)), "even 0 0 1;",
                "");
        due("14 nobody at home", x.home(0, 0), 0);
        due("14 all at home", x.home(0, 1), 65535);
        due("14 all at home without CLASSES", x.home(0, 2), 65535);
        due("15 the most", x.coin(0, 0), 96 * 999 - 6 * 999);
        due("15 the least of one CLASS", x.coin(0, 1), -999);
        due("15 without CLASSES", x.coin(0, 2), 0);
        x.sit(1, 0, 15, true);
        due("14 all but the last one", x.home(0, 1), 32767);
        due("15 FEE and COST alike", x.coin(0, 1), 0);
        SchoolDoors y = with(learners(3) + "teacher 1 0;fee 7;cost 10;", "even 0 0 1;sits 0;even 0 0 1;sits 0;",
                "even 0 0 1;sits 2;",
                times(6, "even 0 0 1;"));
        due("14 he SITS twice", y.home(0, 0), 6);
        due("15 seats, not LEARNERS", y.coin(0, 0), 14 - 20);
        due("14 LEARNER 2 SITS", y.home(0, 1), 3);
        due("15 6 empty CLASSES", y.coin(0, 2), -60);
        SchoolDoors z = with("fee 9;cost 9;", "");
        due("14 no LEARNERS", z.home(0, 0), 0);
        due("15 nothing", z.coin(0, 0), 0);
    }

    // ---- Terms 3: LINE, SEATS, FEWEST, TEST, WHOM, MOVE, ILL

    /** LINE of at most k: LEARNT, and how many are in each CLASS; no CLASSES told: there is none. */
    private static void line(String sentence, String school, int k, int learnt, int... sizes) {
        SchoolDoors x = with(school);
        String told = "16 " + sentence + ", k " + k + " of " + school;
        due(told, x.line(0, k, 0), learnt);
        due(told + ": how many", x.line(0, k, 1), learnt < 0 ? -1 : sizes.length);
        for (int i = 0; i < 10; i++) {
            due(told + ": in CLASS " + i, x.line(0, k, 10 + i), i < sizes.length ? sizes[i] : -1);
            due(told + ": its step", x.line(0, k, 20 + i) >= 0, i < sizes.length);
        }
        for (int what : new int[] {-1, 2, 9, 29, MIN, MAX}) {
            due(told + ": another what", x.line(0, k, what), -1);
        }
        int n = x.about(0, 0);
        for (int j = 0; j < 18; j++) {
            due(told + ": LEARNER " + j, x.line(0, k, 30 + j) >= 0, learnt >= 0 && j < n);
        }
    }

    private static void promise16() {
        String one = "above 0 10 1;";
        line("no LEARNERS, no CLASSES", one, 1, 0);
        line("no LEARNERS, no CLASSES", one, 6, 0);
        line("one", one + learners(1), 1, 10, 1);
        line("of LEAST", one + "size 2 2;" + learners(2), 1, 20, 2);
        line("fewer than LEAST", one + "size 2 2;" + learners(1), 6, -1);
        line("more than MOST", one + "size 2 2;" + learners(3), 1, -1);
        line("neither 2 nor 4", one + "size 2 2;" + learners(3), 6, -1);
        line("twice 2", one + "size 2 2;" + learners(4), 1, -1);
        line("twice 2", one + "size 2 2;" + learners(4), 2, 40, 2, 2);
        line("at most 6", one + "size 1 1;" + learners(6), 6, 60, 1, 1, 1, 1, 1, 1);
        line("at most 5", one + "size 1 1;" + learners(6), 5, -1);
        line("7 are too many for 6", one + "size 1 1;" + learners(7), 6, -1);
        line("15 at first", one + learners(15), 1, 150, 15);
        line("16 are more than MOST", one + learners(16), 1, -1);
        line("16 in two: the fewest in the first one", one + learners(16), 2, 160, 1, 15);
        line("LEAST 8 of 16", one + "size 8 15;" + learners(16), 6, 160, 8, 8);
        line("LEAST 8 of 15", one + "size 8 15;" + learners(15), 6, 150, 15);
        line("LEAST 9 of 16", one + "size 9 15;" + learners(16), 6, -1);
        line("the fewest CLASSES", one + "size 1 9;" + learners(9), 6, 90, 9);
        line("3 at least", one + "size 1 3;" + learners(7), 6, 70, 1, 3, 3);
        line("EASY: more is LEARNT in two", one + "crowd 1 10;" + learners(2), 2, 20, 1, 1);
        line("EASY: but one may be", one + "crowd 1 10;" + learners(2), 1, 18, 2);
        for (int k : new int[] {-1, 0, 7, MIN, MAX}) {
            line("no such k", one + learners(1), k, -1);
            line("no such k, no LEARNERS", one, k, -1);
        }
        String far = "learner 9 1 9;learner 0 1 9;learner 9 1 9;learner 0 1 9;learner 4 1 9;";
        line("along the line", one + far, 6, 50, 2, 1, 2);
        line("two of three: the fewest in the first one", one + far, 2, 40, 2, 3);
        SchoolDoors x = with(one + "above 1 10 1;below 1 9 1;" + far);
        int[] row = {1, 3, 4, 0, 2, -1};
        for (int j = 0; j < row.length; j++) {
            due("16 by STEPS, of one STEP by numbers", x.line(0, 3, 30 + j), row[j]);
        }
        int[] steps = {0, 4, 9, -1};
        for (int i = 0; i < steps.length; i++) {
            due("16 of several steps the least", x.line(0, 3, 20 + i), steps[i]);
        }
        SchoolDoors y = with("below 3 10 1;size 1 1;learner 11 1 9;learner 2 1 9;");
        due("16 3 below 11", y.line(0, 2, 21), 8);
        due("16 none is 3 below 2: nothing is LEARNT, the least", y.line(0, 2, 20), 0);
        due("16 10", y.line(0, 2, 0), 10);
        SchoolDoors z = with("above 0 10 1;" + times(15, "learner 11 1 9;") + "learner 0 1 9;");
        due("16 the 16th along it", z.line(0, 2, 45), 14);
        due("16 the first", z.line(0, 2, 30), 15);
        due("16 step 11", z.line(0, 2, 21), 11);
        due("16 step 0", z.line(0, 2, 20), 0);
        due("16 no 17th", z.line(0, 2, 46), -1);
    }

    private static void seats(String sentence, String school, String plan, int learnt, int... row) {
        SchoolDoors x = with(school + "teacher 63 0;", plan);
        String told = "17 " + sentence + ": " + plan + " in " + school;
        due(told, x.seats(0, 0, 0), learnt);
        for (int l = 0; l < 17; l++) {
            due(told + ", LEARNER " + l, x.seats(0, 0, 10 + l), l < row.length ? row[l] : -2);
        }
        for (int what : new int[] {-1, 1, 9, MIN, MAX}) {
            due(told + ", another what", x.seats(0, 0, what), -2);
        }
    }

    private static void promise17() {
        String ten = "above 0 10 1;";
        String even = "even 0 0 5;";
        seats("nothing", ten, "", 0);
        seats("no LEARNERS", ten, times(3, even), 0);
        seats("no CLASSES", ten + learners(2), "", 0, -1, -1);
        seats("8 LEARNERS", ten + learners(8), even, 80, 0, 0, 0, 0, 0, 0, 0, 0);
        seats("9 LEARNERS", ten + learners(9), even, -2);
        seats("3 CLASSES", ten + learners(8) + "size 1 3;", times(3, even), 80, 0, 0, 0, 1, 1, 1, 2, 2);
        seats("4 CLASSES", ten + learners(8), times(4, even), -2);
        seats("4 CLASSES, no LEARNERS", ten, times(4, even), -2);
        seats("9 LEARNERS, no CLASSES", ten + learners(9), "", -2);
        seats("MOST", ten + learners(4) + "size 1 2;", even + even, 40, 0, 0, 1, 1);
        seats("more than MOST", ten + learners(5) + "size 1 2;", even + even, 40, 0, 0, 1, 1, -1);
        seats("LEAST", ten + learners(2) + "size 2 3;", even, 20, 0, 0);
        seats("fewer than LEAST", ten + learners(1) + "size 2 3;", even, 0, -1);
        seats("LEAST in each or none", ten + learners(3) + "size 2 2;", even + even, 20, 0, 0, -1);
        seats("home behind all", learners(2), even, 0, 0, 0);
        seats("home behind all, MOST 1", learners(3) + "size 1 1;", even + even, 0, 0, 1, -1);
        seats("home, with 3 CLASSES", ten + learners(4) + "size 1 1;", times(3, even), 30, 0, 1, 2, -1);
        seats("all home, with 3 CLASSES", ten + learners(8) + "size 9 9;", times(3, even), 0, -1, -1, -1, -1, -1, -1, -1, -1);
        seats("of several the first row", ten + learners(1), times(3, even), 10, 0);
        seats("more is LEARNT in the last", ten + "above 1 11 1;" + learners(1), even + even + "even 0 0 6;", 11, 2);
        seats("the other EVENING", ten + "learner 5 2 9;learner 5 1 9;", "even 0 0 5;even 0 1 5;", 20, 1, 0);
        seats("a PRICE of FEE", ten + "fee 9;" + learners(1), even, 10, 0);
        seats("a PRICE below FEE", ten + "fee 10;" + learners(1), even, 0, -1);
        seats("PARTNERS in the same", ten + "size 1 2;" + learners(3) + "couple 0 2;", even + even, 30, 0, 1, 0);
        seats("or both home", ten + "size 1 1;" + learners(3) + "couple 0 2;", even + even, 10, -1, 0, -1);
        seats("both home: one can't", ten + "learner 5 1 9;learner 5 2 9;couple 0 1;", even, 0, -1, -1);
        seats("both home: one can't pay", ten + "fee 5;learner 5 1 9;learner 5 1 4;couple 0 1;", even, 0, -1, -1);
        seats("whoever SITS there", ten + learners(2), even + "sits 0 1;even 0 0 5;", 20, 0, 0);
        seats("EASY", ten + "crowd 1 20;" + learners(2), even + even, 20, 0, 1);
        seats("PAIRS", ten + "tell 5;learner 5 1 9;learner 4 1 9;", "pairs 0 0 5;" + even, 20, 0, 0);
        seats("the most there is", "above 0 99 1;long 200;" + learners(8), "long 0 0 5;", 1584, 0, 0, 0, 0, 0, 0, 0, 0);
        seats("three CLASSES, the last row", "below 1 99 1;long 200;" + times(8, "learner 6 4 9;"), "even 0 0 6;even 0 1 6;"
                + "long 0 2 5;", 1584, 2, 2, 2, 2, 2, 2, 2, 2);
    }

    private static void fewest(String sentence, String school, String plan, int bits) {
        SchoolDoors x = with(school + "teacher 63 0;", plan);
        due("18 " + sentence + ": " + plan + " in " + school, x.fewest(0, 0), bits);
    }

    private static void promise18() {
        String even = "even 0 0 5;";
        fewest("nobody, nothing", "", "", 0);
        fewest("nobody", "", times(6, even), 0);
        fewest("no CLASSES", learners(1), "", -1);
        fewest("one", learners(1), times(6, even), 1);
        fewest("15 at first", learners(15), even + even, 1);
        fewest("16 are more than MOST", learners(16), even, -1);
        fewest("16 in two", learners(16), times(6, even), 3);
        fewest("MOST", learners(4) + "size 1 2;", times(3, even), 3);
        fewest("more than MOST", learners(5) + "size 1 2;", times(3, even), 7);
        fewest("more than MOST in all", learners(7) + "size 1 2;", times(3, even), -1);
        fewest("all 6", learners(6) + "size 1 1;", times(6, even), 63);
        fewest("7", learners(7) + "size 1 1;", times(6, even), -1);
        fewest("LEAST", learners(4) + "size 2 3;", times(3, even), 3);
        fewest("fewer than LEAST", learners(1) + "size 2 3;", times(3, even), -1);
        fewest("LEAST in each of the set", learners(5) + "size 3 4;", even + even, -1);
        fewest("LEAST in each of the set", learners(6) + "size 3 4;", even + even, 3);
        String apart = "learner 5 1 9;learner 5 2 9;";
        fewest("each has one EVENING", apart, "even 0 2 5;even 0 0 5;even 0 0 5;even 0 1 5;", 10);
        fewest("LEAST 2 of one each", apart + "size 2 3;", "even 0 0 5;even 0 1 5;", -1);
        fewest("LEAST 2 of three and one", "learner 5 1 9;learner 5 1 9;learner 5 1 9;learner 5 2 9;size 2 3;",
                "even 0 0 5;even 0 1 5;", -1);
        fewest("LEAST 2 of two and two", "learner 5 1 9;learner 5 2 9;learner 5 1 9;learner 5 2 9;size 2 3;",
                "even 0 0 5;even 0 1 5;", 3);
        fewest("MOST 2 of three and one", "learner 5 1 9;learner 5 1 9;learner 5 1 9;learner 5 2 9;size 1 2;",
                "even 0 0 5;even 0 1 5;", -1);
        fewest("MOST 3 of three and one", "learner 5 1 9;learner 5 1 9;learner 5 1 9;learner 5 2 9;size 1 3;",
                "even 0 0 5;even 0 1 5;", 3);
        fewest("one can't come", apart + "learner 5 4 9;", "even 0 0 5;even 0 1 5;", -1);
        fewest("the fewest, not the least number", "learner 5 5 9;learner 5 6 9;", "even 0 0 5;even 0 1 5;even 0 2 5;", 4);
        fewest("a PRICE of FEE", learners(2) + "fee 9;", even, 1);
        fewest("a PRICE below FEE", learners(2) + "fee 10;", even, -1);
        fewest("nobody needs to pay", "fee 10;", even, 0);
        fewest("PARTNERS or not", learners(2) + "couple 0 1;size 1 1;", even + even, 3);
        fewest("whoever SITS there", learners(2) + "size 1 1;", even + "sits 0 1;even 0 0 5;", 3);
    }

    private static void test(String sentence, String school, String plan, int test, int whom) {
        SchoolDoors x = with(TABLE + "teacher 63 3;teacher 63 0;" + school, plan);
        due("19 " + sentence + ": " + plan + " in " + school, x.test(0, 0, 0), test);
        due("20 " + sentence + ": " + plan + " in " + school, x.whom(0, 0), whom);
    }

    private static void promises19And20() {
        String two = "even 1 0 7;even 1 0 6;";
        test("no CHANCE", learners(1), two, 0, -1);
        test("CHANCE 0", learners(1) + "perhaps 0 0;", two, 0, -1);
        test("CHANCE 1", learners(1) + "perhaps 0 1;", two, 99 * 61 + 61 - (99 * 61 + 40), 0);
        test("CHANCE 50", learners(1) + "perhaps 0 50;", two, 50 * 61 + 50 * 61 - (50 * 61 + 50 * 40), 0);
        test("CHANCE 99", learners(1) + "perhaps 0 99;", two, 61 + 99 * 61 - (30 + 99 * 61), 0);
        test("CHANCE 100", learners(1) + "perhaps 0 100;", two, 0, -1);
        test("one CLASS is alike", learners(1) + "perhaps 0 50;", "even 1 0 7;", 0, -1);
        test("no CLASSES", learners(1) + "perhaps 0 50;", "", -1, -1);
        test("a PRICE of FEE", learners(1) + "perhaps 0 50;fee 9;", two, 1050, 0);
        test("he CAN sit nowhere", learners(1) + "perhaps 0 50;fee 10;", two, -1, -1);
        test("not on that EVENING", "learner 5 2 9;perhaps 0 50;", two, -1, -1);
        test("where he CAN sit alone", "learner 5 2 9;perhaps 0 50;", two + "even 1 1 1;", 0, -1);
        test("too far", "learner 0 1 9;perhaps 0 50;", two, 0, -1);
        test("of 11: 12", "learner 11 1 9;perhaps 0 50;", "even 1 0 11;even 1 0 10;", 50 * 40 + 50 * 20 - 50 * 60, -1);
        test("of 11: 12, 3 above 9", "below 3 80 1;learner 11 1 9;perhaps 0 50;", "even 1 0 11;even 1 0 9;",
                50 * 40 + 50 * 80 - (50 * 10 + 50 * 80), 0);
        test("of 11: 12 is 4 above 8", "below 3 80 1;learner 11 1 9;perhaps 0 50;", "even 1 0 11;even 1 0 8;", 50 * 80 + 50 * 20
                - 50 * 80, 0);
        test("FIT of PAIRS without TELL", "tell 99;learner 5 1 9;learner 6 1 9;perhaps 0 50;",
                "pairs 1 0 7;sits 1;even 1 0 6;", 1050, 0);
        test("LONG", "long 50;learner 5 1 9;perhaps 0 50;", "long 1 0 7;even 1 0 6;",
                50 * 61 + 50 * 40 - (50 * 61 + 50 * 40), -1);
        test("BROAD", learners(1) + "perhaps 0 50;", "broad 0 0 7;even 1 0 6;", 0, -1);
        test("EASY does not count", "crowd 1 20;" + learners(6) + "perhaps 0 50;", "even 1 0 7;" + sits(0,
                5) + "even 1 0 6;", 1050, 0);
        String table = "above 0 10 1;above 1 10 1;above 2 1 1;above 3 0 1;below 1 0 1;below 2 0 1;below 3 0 1;";
        test("just 1", table + learners(1) + "perhaps 0 1;", "even 1 0 5;even 1 0 8;", 1, 0);
        SchoolDoors x = with(TABLE + "teacher 1 0;" + learners(16) + "perhaps 3 50;perhaps 7 50;perhaps 9 49;perhaps 15 50;",
                "even 0 0 7;even 0 0 6;");
        due("20 of several the least", x.whom(0, 0), 3);
        SchoolDoors y = with(TABLE + "teacher 1 0;" + learners(16) + "perhaps 3 2;perhaps 15 3;", "even 0 0 7;even 0 0 6;");
        due("20 the greatest, LEARNER 15", y.whom(0, 0), 15);
        due("19 no LEARNER 16", y.test(0, 0, 16), -1);
        SchoolDoors z = with("", "");
        due("20 nobody", z.whom(0, 0), -1);
    }

    private static void move(String sentence, String school, String plan, int who, int where, int grows) {
        SchoolDoors x = with("above 0 40 1;above 1 41 1;above 2 60 1;teacher 63 0;" + school, plan);
        String told = "21 " + sentence + ": " + plan + " in " + school;
        due(told, x.move(0, 0, 0), who);
        due(told + ", the CLASS", x.move(0, 0, 1), where);
        due(told + ", by how much", x.move(0, 0, 2), grows);
        for (int what : new int[] {-1, 3, MIN, MAX}) {
            due(told + ", another what", x.move(0, 0, what), -1);
        }
    }

    private static void promise21() {
        move("nothing", "", "", -1, -1, -1);
        move("one CLASS", learners(1), "even 0 0 5;sits 0;", -1, -1, -1);
        move("none SITS", learners(1), "even 0 0 5;even 0 0 6;", -1, -1, -1);
        move("just above 0", learners(1), "even 0 0 5;sits 0;even 0 0 6;", 0, 1, 1);
        move("0 is not above", learners(1), "even 0 0 5;sits 0;even 0 0 5;", -1, -1, -1);
        move("below 0", learners(1), "even 0 0 6;sits 0;even 0 0 5;", -1, -1, -1);
        move("in just one CLASS", learners(1), "even 0 0 5;sits 0;even 0 0 5;sits 0;even 0 0 7;", -1, -1, -1);
        move("the other one does", learners(2), "even 0 0 5;sits 0 1;even 0 0 5;sits 0;even 0 0 7;", 1, 2, 20);
        move("fewer than MOST", learners(2) + "size 1 2;", "even 0 0 5;sits 0;even 0 0 7;sits 1;", 0, 1, 20);
        move("MOST being there", learners(3) + "size 1 2;", "even 0 0 5;sits 0;even 0 0 7;sits 1 2;", -1, -1, -1);
        move("MOST 15", learners(15), "even 0 0 5;sits 0;even 0 0 7;" + sits(1, 14), 0, 1, 20);
        move("15 being there", learners(16), "even 0 0 5;sits 0;even 0 0 7;" + sits(1, 15), -1, -1, -1);
        move("LEAST stay behind", learners(3) + "size 2 9;", "even 0 0 5;sits 0 1 2;even 0 0 7;", 0, 1, 20);
        move("fewer than LEAST would", learners(2) + "size 2 9;", "even 0 0 5;sits 0 1;even 0 0 7;", -1, -1, -1);
        move("fewer than LEAST would", learners(3) + "size 3 9;", "even 0 0 5;sits 0 1 2;even 0 0 7;", -1, -1, -1);
        move("none stay behind", learners(1) + "size 2 9;", "even 0 0 5;sits 0;even 0 0 7;", 0, 1, 20);
        move("fewer than LEAST there", learners(1) + "size 3 9;", "even 0 0 5;sits 0;even 0 0 7;", 0, 1, 20);
        move("a PRICE of FEE", learners(1) + "fee 9;", "even 0 0 5;sits 0;even 0 0 7;", 0, 1, 20);
        move("a PRICE below FEE", learners(1) + "fee 10;", "even 0 0 5;sits 0;even 0 0 7;", -1, -1, -1);
        move("not on that EVENING", learners(1), "even 0 0 5;sits 0;even 0 1 7;", -1, -1, -1);
        move("from an EVENING that he has not", "learner 5 2 9;", "even 0 0 5;sits 0;even 0 1 7;", 0, 1, 20);
        move("the least LEARNER", learners(3), "even 0 0 5;sits 1 2;even 0 0 7;", 1, 1, 20);
        move("then the least CLASS", learners(1), "even 0 0 7;even 0 0 5;sits 0;even 0 0 7;", 0, 0, 20);
        move("LEARNER ahead of CLASS", "learner 5 2 9;learner 5 1 9;", "even 0 0 5;sits 0 1;even 0 0 7;even 0 1 7;", 0, 2, 20);
        move("by which it grows most", learners(1) + "learner 4 1 9;", "even 0 0 5;sits 0 1;even 0 0 6;", 1, 1, 19);
        move("EASY: who stays learns more", learners(2) + "crowd 1 20;", "even 0 0 5;sits 0 1;even 0 0 5;", 0, 1, 16);
        move("EASY: who is there learns less", learners(2) + "crowd 1 20;", "even 0 0 5;sits 0;even 0 0 7;sits 1;", -1, -1, -1);
        move("LEARNER 15, CLASS 5", learners(15) + "learner 4 2 9;", times(5, "even 0 0 5;") + "sits 15;even 0 1 6;", 15, 5, 19);
    }

    private static void ill(String sentence, String school, String plan, int teacher, int learnt) {
        SchoolDoors x = with("above 0 40 1;above 1 60 1;above 2 5 1;" + times(5, "teacher 1 0;") + school, plan);
        due("22 " + sentence + ": TEACHER " + teacher + ", " + plan + " in " + school, x.ill(0, 0, teacher), learnt);
    }

    private static void promise22() {
        ill("nothing", "", "", 0, 0);
        ill("TEACHER 4", "", "", 4, 0);
        ill("no TEACHER 5", "", "", 5, -1);
        ill("6", learners(6), "even 0 0 5;" + sits(0, 5) + "even 1 0 6;", 0, 360);
        ill("7 are more", learners(7), "even 0 0 5;" + sits(0, 6) + "even 1 0 6;", 0, -1);
        ill("7, but nobody else's CLASS", learners(7), "even 0 0 5;" + sits(0, 6), 0, -1);
        ill("6, but nobody else's CLASS", learners(6), "even 0 0 5;" + sits(0, 5), 0, 0);
        ill("7, one SITS elsewhere", learners(7), "even 0 0 5;" + sits(0, 6) + "even 1 0 6;sits 6;", 0, 420);
        ill("6 of two CLASSES of his", learners(6), "even 0 0 5;" + sits(0, 3) + "even 0 0 5;" + sits(2,
                5) + "even 1 0 6;", 0, 360);
        ill("7 of two CLASSES of his", learners(7), "even 0 0 5;" + sits(0, 3) + "even 0 0 5;" + sits(3,
                6) + "even 1 0 6;", 0, -1);
        ill("16 of others", learners(16), "even 1 0 6;" + sits(0, 15), 0, 960);
        ill("of others, CLASS 5", learners(1), times(5, "even 0 0 5;sits 0;") + "even 4 0 6;", 0, 60);
        ill("MOST", learners(3) + "size 1 2;", "even 0 0 5;sits 0;even 1 0 6;sits 1;", 0, 120);
        ill("not above MOST", learners(3) + "size 1 2;", "even 0 0 5;sits 0;even 1 0 6;sits 1 2;", 0, 120);
        ill("one of two comes", learners(3) + "size 1 2;", "even 0 0 5;sits 0 1;even 1 0 6;sits 2;", 0, 120);
        ill("others above MOST stay", learners(4) + "size 1 2;", "even 0 0 5;sits 0;even 1 0 6;sits 1 2 3;", 0, 180);
        ill("fewer than LEAST", learners(1) + "size 3 9;", "even 0 0 5;sits 0;even 1 0 6;", 0, 60);
        ill("a PRICE of FEE", learners(1) + "fee 9;", "even 0 0 5;sits 0;even 1 0 6;", 0, 60);
        ill("a PRICE below FEE", learners(1) + "fee 10;", "even 0 0 5;sits 0;even 1 0 6;", 0, 0);
        ill("not on that EVENING", learners(1), "even 0 0 5;sits 0;even 1 1 6;", 0, 0);
        ill("or home: EASY", learners(2) + "learner 4 1 9;crowd 2 20;", "even 0 0 4;sits 2;even 1 0 6;sits 0 1;", 0, 120);
        ill("the greatest", learners(1), "even 0 0 5;sits 0;even 1 0 5;even 2 0 6;even 3 0 4;", 0, 60);
        ill("one each", learners(2) + "crowd 1 20;", "even 0 0 5;sits 0 1;even 1 0 6;even 2 0 5;", 0, 100);
        ill("his alone are gone", learners(2), "even 0 0 5;sits 0;even 1 0 6;sits 1;", 1, 40 + 40);
    }

    public static void main(String[] args) {
        promise6();
        promise7();
        promise8();
        promise10();
        asksOfPlans();
        asksOfOthers();
        promise11();
        promise12();
        promise13();
        promises14And15();
        promise16();
        promise17();
        promise18();
        promises19And20();
        promise21();
        promise22();
        end();
    }
}
