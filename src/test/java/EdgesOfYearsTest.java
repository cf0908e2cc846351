/** The boundaries of promises 23 to 46: fees, years, weeks, images. */
public final class EdgesOfYearsTest extends Edges {
    private static void fills(String sentence, String school, int fills, int pays) {
        SchoolDoors x = with(school);
        due("23 FILLS, " + sentence, x.fills(0, false), fills);
        due("23 PAYS, " + sentence, x.fills(0, true), pays);
    }

    private static void promise23() {
        fills("no LEARNERS", "fee 9;teacher 1 0;", -1, -1);
        fills("a PRICE of 0", "learner 1 1 0;", 0, 0);
        fills("a PRICE of 1", "learner 1 1 1;", 1, 1);
        fills("a PRICE of 999", "learner 1 1 999;", 999, 999);
        fills("16 of 999", times(16, "learner 1 1 999;"), 999, 999);
        fills("0 and 1", "learner 1 1 0;learner 1 1 1;", 0, 1);
        fills("of several the least", "learner 1 1 20;learner 1 1 10;", 10, 10);
        fills("of several the least, told ahead", "learner 1 1 10;learner 1 1 20;", 10, 10);
        fills("one more by the greater", "learner 1 1 21;learner 1 1 10;", 10, 21);
        fills("one less by the greater", "learner 1 1 19;learner 1 1 10;", 10, 10);
        fills("three alike", "learner 1 1 30;learner 1 1 15;learner 1 1 10;", 10, 10);
        fills("the FEE that is does not count", "fee 500;learner 1 1 30;", 30, 30);
        fills("the last one", learners(15) + "learner 1 1 8;", 8, 9);
    }

    private static void promises24And43() {
        String school = "above 0 25 3;above 1 24 3;below 1 12 3;above 2 13 3;rise 25;teacher 1 0;learner 5 1 9;learner 5 1 9;"
                + "learner 10 1 9;learner 11 1 9;learner 0 1 9;couple 0 1;perhaps 2 7;";
        SchoolDoors x = with(school,
                "even 0 0 5;sits 0;even 0 0 6;sits 1;even 0 0 10;sits 2;even 0 0 11;sits 3;even 0 0 0;sits 4;");
        due("43 RISE at least; 24 is less; 11 at most", x.pass(0, 0), 1 + 4 + 16);
        String before = toldOfSchool(x, 0);
        feed(x, "rooms 0;");
        for (int at : new int[] {-2, 1, 3, MIN, MAX}) {
            due("24 none such " + at, x.next(0, 0, at), -1);
        }
        due("24 nothing came", x.count(0), 1);
        due("24 a further one", x.next(0, 0, -1), 1);
        int[] steps = {6, 5, 11, 11, 1};
        for (int i = 0; i < 5; i++) {
            due("24 STEP of LEARNER " + i, x.learner(1, i, 0), steps[i]);
        }
        due("24 all else is as it was", toldOfSchool(x, 1).replace("/ 6", "/ 5").replace("/ 11 1 9 -1 7", "/ 10 1 9 -1 7")
                .replace("/ 1 1", "/ 0 1").equals(before), true);
        due("24 the SCHOOL itself stays", toldOfSchool(x, 0).equals(before), true);
        due("24 the tape, too", tape(x), 8);
        due("24 no such place yet", x.next(0, 0, 2), -1);
        due("24 from the second one", x.next(1, 0, -1), 2);
        due("24 it lies 1 below now", x.learner(2, 0, 0), 6);
        due("24 11 stays", x.learner(2, 2, 0) * 100 + x.learner(2, 3, 0), 1111);
        due("24 there are 3", x.next(0, 0, -1), -1);
        due("24 still 3", x.count(0), 3);
        text(x, 0, 2, "");
        due("24 in the place of the last one", x.next(0, 0, 2), 2);
        due("24 it is there", x.learner(2, 4, 0), 1);
        due("24 in its own place", x.next(0, 0, 0), 0);
        due("24 it is there", x.learner(0, 0, 0) * 10 + x.learner(0, 4, 0), 61);
        due("24 does not GO: nothing comes", x.sit(0, 0, 9, true) ? x.next(1, 0, 2) : 0, -1);
        due("24 the old one stays", x.learner(2, 4, 0), 1);
        due("24 no FAULT of it", x.fault(0) * 10 + x.fault(1), -1);
        SchoolDoors y = with("above 1 12 1;above 2 13 1;rise 25;teacher 1 0;learner 5 1 9;learner 5 1 9;",
                "even 0 0 6;sits 0 1;even 0 0 7;sits 0;even 0 0 6;sits 1;");
        due("43 in all CLASSES together: 25 and 24", y.pass(0, 0), 1);
        SchoolDoors z = with("rise 0;teacher 1 0;learner 11 1 9;learner 10 1 9;", "");
        due("43 RISE 0: at home, too, but 11", z.pass(0, 0), 2);
        due("24 11 at most", z.next(0, 0, 0), 0);
        due("24 11 at most", z.learner(0, 0, 0) + z.learner(0, 1, 0), 22);
        due("43 none is higher then", z.pass(0, 0), 0);
        SchoolDoors w = with("above 0 99 1;above 1 98 1;rise 99;teacher 1 0;" + learners(16),
                "even 0 0 5;sits 15;even 0 0 6;sits 0;", "");
        due("43 RISE 99, LEARNER 15", w.pass(0, 0), 32768);
        due("43 nobody", w.pass(0, 1), 0);
    }

    private static void promise25() {
        SchoolDoors x = with(TABLE + "rise 0;teacher 1 0;learner 0 1 9;", "even 0 0 11;sits 0;");
        int[] years = {-1, 0, 0, 0, 0, 0, 0, 0, 0, 9, 30, 61, 40, -1};
        for (int n = 0; n < years.length; n++) {
            due("25 year " + n, x.ladder(0, 0, n), years[n]);
        }
        due("25 STEPS stay", x.learner(0, 0, 0), 0);
        SchoolDoors y = with(TABLE + "rise 30;teacher 1 0;learner 5 1 9;learner 5 1 9;", "even 0 0 7;sits 0;even 0 0 8;sits 1;");
        int[] sums = {39, 70, 49, 29, 29};
        for (int n = 1; n <= sums.length; n++) {
            due("25 30 is RISE, 9 is less, year " + n, y.ladder(0, 0, n), sums[n - 1]);
        }
        SchoolDoors z = with(TABLE + "rise 0;teacher 1 0;learner 11 1 9;", "even 0 0 11;sits 0;", "");
        due("25 11 at most", z.ladder(0, 0, 12), 40);
        due("25 nothing", z.ladder(0, 1, 12), 0);
    }

    private static void beside(String sentence, String school, String sits, int most, int... row) {
        SchoolDoors x = with(school + "teacher 1 0;", "even 0 0 5;" + sits);
        String told = "26 " + sentence + ": " + sits + " in " + school;
        due(told, x.beside(0, 0, 0, -1), most);
        for (int i = 0; i < 17; i++) {
            due(told + ", LEARNER " + i, x.beside(0, 0, 0, i), i < row.length ? row[i] : -2);
        }
        due(told + ", below", x.beside(0, 0, 0, -2), -2);
    }

    private static void promise26() {
        beside("nobody", learners(16), "", 0);
        beside("alone", learners(1), "sits 0;", 0, -1);
        beside("the least neighbour, being alone behind all", learners(4), sits(0, 3), 0, 1, 0, 3, 2);
        beside("the next one who is left", learners(5), sits(0, 4), 0, 1, 0, 3, 2, -1);
        beside("12", learners(16), sits(0, 11), 0, 1, 0, 3, 2, 5, 4, 7, 6, 9, 8, 11, 10);
        beside("more than 12", learners(16), sits(0, 12), -2);
        beside("16", learners(16), sits(0, 15), -2);
        beside("one apart", "tell 7;learner 5 1 9;learner 6 1 9;", sits(0, 1), 7, 1, 0);
        beside("one apart, the other way", "tell 7;learner 6 1 9;learner 5 1 9;", sits(0, 1), 7, 1, 0);
        beside("alike", "tell 7;" + learners(2), sits(0, 1), 0, 1, 0);
        beside("two apart", "tell 7;learner 5 1 9;learner 7 1 9;", sits(0, 1), 0, 1, 0);
        beside("PARTNERS", "tell 7;" + learners(2) + "couple 0 1;", sits(0, 1), 14, 1, 0);
        beside("PARTNERS one apart", "tell 7;learner 5 1 9;learner 6 1 9;couple 1 0;", sits(0, 1), 21, 1, 0);
        beside("TELL 0", "learner 5 1 9;learner 6 1 9;couple 1 0;", sits(0, 1), 0, 1, 0);
        beside("TELL 99, 6 times 3", "tell 99;" + times(6, "learner 5 1 9;learner 6 1 9;")
                + "couple 0 1;couple 2 3;couple 4 5;couple 6 7;couple 8 9;couple 10 11;", sits(0, 11), 18 * 99, 1, 0,
                3, 2, 5, 4, 7, 6,
                9, 8, 11, 10);
        beside("a PARTNER who does not SIT there", "tell 7;" + learners(3) + "couple 0 2;", sits(0, 1), 0, 1, 0);
        beside("PARTNERS ahead of two one apart", "tell 7;learner 5 1 9;learner 6 1 9;learner 5 1 9;couple 0 2;",
                sits(0, 2), 14, 2,
                -1, 0);
        beside("two one apart and as many",
                "tell 7;learner 6 1 9;learner 5 1 9;learner 6 1 9;learner 6 1 9;couple 0 2;", sits(0, 3),
                21, 2, 3, 0, 1);
        beside("alone for another one's sake", "tell 7;learner 1 1 9;learner 5 1 9;learner 6 1 9;", sits(0, 2), 7, -1, 2, 1);
        SchoolDoors x = with("tell 7;teacher 1 0;" + times(14, "learner 1 1 9;") + "learner 5 1 9;learner 6 1 9;",
                "even 0 0 5;sits 14 15;");
        due("26 LEARNERS 14 and 15", x.beside(0, 0, 0, -1), 7);
        due("26 LEARNER 15", x.beside(0, 0, 0, 15), 14);
        due("26 LEARNER 14", x.beside(0, 0, 0, 14), 15);
        due("26 who does not SIT there", x.beside(0, 0, 0, 0), -2);
        due("26 no LEARNER 16", x.beside(0, 0, 0, 16), -2);
    }

    /** The numbers that a SEED draws, reckoned with numbers of any length. */
    private static int[] drawn(int seed, int many) {
        java.math.BigInteger x = java.math.BigInteger.valueOf(seed & 0xffffffffL);
        int[] numbers = new int[many];
        for (int i = 0; i < many; i++) {
            x = x.multiply(java.math.BigInteger.valueOf(1103515245)).add(java.math.BigInteger.valueOf(12345))
                    .mod(java.math.BigInteger.ONE.shiftLeft(32));
            numbers[i] = x.shiftRight(16).intValue() % 100;
        }
        return numbers;
    }

    /** one goes, if a number below 100 is STAY at least; of 32 bits; shifted right without sign. */
    private static void draws() {
        for (int seed : new int[] {0, 1, -1, 2, 5, 77, 1000, 123456789, -123456789, MIN, MAX, MIN + 1, MAX - 1,
                1 << 16, -(1 << 16)}) {
            int number = drawn(seed, 1)[0];
            String plan = "even 0 0 5;sits 0;";
            SchoolDoors goes = with("weeks 1;above 0 0 " + number + ";teacher 1 0;" + learners(1), plan);
            due("27 STAY as the number " + number + ", SEED " + seed, goes.weeks(0, 0, seed, 1, 0), 0);
            due("28 it ends", goes.ended(0, 0, seed, 0), 1);
            due("39 it does not hold", goes.holds(0, 0, seed, 1, 0), 0);
            SchoolDoors stays = with("weeks 1;above 0 0 " + (number + 1) + ";teacher 1 0;" + learners(1), plan);
            due("27 STAY one more, SEED " + seed, stays.weeks(0, 0, seed, 1, 0), 1);
            due("28 it does not end", stays.ended(0, 0, seed, 0), -1);
            due("39 it holds", stays.holds(0, 0, seed, 1, 0), 1);
        }
        SchoolDoors y = with("weeks 1;above 0 0 50;teacher 1 0;" + learners(1), "even 0 0 5;sits 0;");
        SchoolDoors x = with("weeks 30;above 0 0 90;teacher 1 0;" + learners(1), "even 0 0 5;sits 0;",
                "even 0 0 5;sits 0;even 0 0 5;sits 0;");
        for (int seed : new int[] {MAX - 3, MIN, -4, 0, 4}) {
            int holds = 0;
            for (int w = 1; w <= 8; w++) {
                holds += drawn(seed + w - 1, 1)[0] < 50 ? 1 : 0;
                due("39 SEED, SEED + 1, .. of " + seed, y.holds(0, 0, seed, w, 0), holds);
                due("28 another one between", y.ended(0, 0, seed + 100, 0), drawn(seed + 100, 1)[0] < 50 ? -1 : 1);
                int week = 1;
                int[] numbers = drawn(seed + w - 1, 30);
                while (week <= 30 && numbers[week - 1] < 90) {
                    week++;
                }
                due("28 the week of SEED " + (seed + w - 1), x.ended(0, 0, seed + w - 1, 0), week > 30 ? -1 : week);
            }
        }
        twoClasses(x);
    }

    /** Week by week, CLASS by CLASS: who has gone draws no more. */
    private static void twoClasses(SchoolDoors x) {
        for (int seed = -20; seed < 20; seed++) {
            int[] numbers = drawn(seed, 60);
            int at = 0;
            int[] ends = {-1, -1};
            for (int week = 1; week <= 30; week++) {
                for (int k = 0; k < 2; k++) {
                    if (ends[k] < 0 && numbers[at++] >= 90) {
                        ends[k] = week;
                    }
                }
            }
            due("28 CLASS 0, SEED " + seed, x.ended(0, 1, seed, 0), ends[0]);
            due("28 CLASS 1, SEED " + seed, x.ended(0, 1, seed, 1), ends[1]);
        }
    }

    private static void promises27And28And39() {
        String school = "above 0 1 100;above 1 1 0;size 2 9;teacher 1 0;weeks 30;" + learners(3) + "learner 4 1 9;";
        SchoolDoors x = with(school,
                "even 0 0 5;sits 0 1 3;even 0 0 5;sits 0 3;even 0 0 5;sits 0;even 0 0 5;two 0 0 5 9;sits 0 1;"
                + "two 0 0 9 5;sits 0 1;");
        int[] first = {3, 2, 1, 0, 2, 2};
        int[] then = {2, 0, 0, 0, 2, 0};
        int[] ends = {-1, 1, 1, 1, -1, 1};
        for (int k = 0; k < 6; k++) {
            due("27 behind 0 weeks, CLASS " + k, x.weeks(0, 0, 9, 0, k), first[k]);
            due("27 behind 1 week, CLASS " + k, x.weeks(0, 0, 9, 1, k), then[k]);
            due("27 behind 30 weeks, CLASS " + k, x.weeks(0, 0, 9, 30, k), then[k]);
            due("28 CLASS " + k, x.ended(0, 0, 9, k), ends[k]);
            due("39 CLASS " + k, x.holds(0, 0, 9, 8, k), ends[k] == -1 ? 8 : 0);
        }
        due("27 in all together, behind 0 weeks", x.weeks(0, 0, 9, 0, -1), 10);
        due("27 in all together, behind 30", x.weeks(0, 0, 9, 30, -1), 4);
        for (int n : new int[] {-1, 31, MIN, MAX}) {
            due("27 not behind " + n, x.weeks(0, 0, 9, n, 0), -1);
            due("27 not behind " + n + ", in all", x.weeks(0, 0, 9, n, -1), -1);
        }
        for (int k : new int[] {-2, 6, MIN, MAX}) {
            due("27 no CLASS " + k, x.weeks(0, 0, 9, 1, k), -1);
        }
        for (int k : new int[] {-1, 6, MIN, MAX}) {
            due("28 no CLASS " + k, x.ended(0, 0, 9, k), -1);
            due("39 no CLASS " + k, x.holds(0, 0, 9, 1, k), -1);
        }
        due("27 who SITS there is as it was", x.plan(0, 0, 5), 11);
        SchoolDoors y = with("teacher 1 0;weeks 1;above 3 0 100;below 3 0 100;" + learners(1),
                "even 0 0 8;sits 0;even 0 0 9;sits 0;"
                + "even 0 0 2;sits 0;even 0 0 1;sits 0;", "");
        int[] beyond = {1, 0, 1, 0};
        for (int k = 0; k < 4; k++) {
            due("27 STAY 100 three apart; 0 beyond the TABLE, CLASS " + k, y.weeks(0, 0, 3, 1, k), beyond[k]);
        }
        due("27 WEEKS 1", y.weeks(0, 0, 3, 2, 0), -1);
        due("27 nobody in all", y.weeks(0, 1, 3, 1, -1), 0);
        due("27 no CLASS", y.weeks(0, 1, 3, 1, 0), -1);
        draws();
    }

    private static void lacks(String sentence, String school, int evening, int lacks) {
        SchoolDoors x = with(school);
        due("29 " + sentence + ": EVENING " + evening + " of " + school, x.lacks(0, evening), lacks);
    }

    private static void promise29() {
        for (int evening : new int[] {-1, 6, MIN, MAX}) {
            lacks("none such", learners(1), evening, -1);
        }
        lacks("nobody", "", 0, 0);
        lacks("nobody", "", 5, 0);
        lacks("LEARNERS who have it", "learner 1 32 1;learner 1 63 1;learner 1 31 1;", 5, 2);
        lacks("LEARNERS who have it", "learner 1 1 1;learner 1 63 1;learner 1 62 1;", 0, 2);
        lacks("all 16", learners(16), 0, 16);
        lacks("one TEACHER", learners(16) + "teacher 1 0;", 0, 1);
        lacks("another EVENING's", learners(16) + "teacher 62 0;", 0, 16);
        lacks("0 at least: just 0", learners(4) + "size 1 2;teacher 1 0;teacher 1 0;", 0, 0);
        lacks("0 at least: one less", learners(3) + "size 1 2;teacher 1 0;teacher 1 0;", 0, 0);
        lacks("one more", learners(5) + "size 1 2;teacher 1 0;teacher 1 0;", 0, 1);
        lacks("fewer ROOMS", learners(9) + "size 1 2;rooms 1;teacher 1 0;teacher 1 0;", 0, 7);
        lacks("as many ROOMS", learners(9) + "size 1 2;rooms 2;teacher 1 0;teacher 1 0;", 0, 5);
        lacks("more ROOMS", learners(9) + "size 1 2;rooms 3;teacher 1 0;teacher 1 0;", 0, 5);
        lacks("5 TEACHERS, 9 ROOMS", learners(16) + "size 1 3;" + times(5, "teacher 1 0;"), 0, 1);
        lacks("3 of 5 TEACHERS", learners(16) + "size 1 3;" + times(2, "teacher 32 0;") + times(3, "teacher 1 0;"), 0, 7);
    }

    private static void promise30() {
        SchoolDoors x = with(TABLE + "crowd 2 20;tell 7;teacher 1 0;" + learners(15) + "learner 6 1 9;",
                "even 0 0 3;even 0 0 8;sits 0;even 0 0 6;sits 0 1;even 0 0 6;" + sits(0, 6) + "pairs 0 0 6;sits 0;even 0 0 5;"
                        + sits(0, 15));
        int[] three = {9, 30, 61, 40, 20, 10, 5, 0, 0, 0, 0, 0};
        for (int step = 0; step < 12; step++) {
            due("30 alone, STEP " + step, x.more(0, 0, 0, step), three[step]);
        }
        due("30 4 below", x.more(0, 0, 0, 7), 0);
        due("30 EASY is not passed: 3 above", x.more(0, 0, 1, 5), 9);
        due("30 11 is 3 above 8", x.more(0, 0, 1, 11), 5);
        due("30 the third one: less", x.more(0, 0, 2, 5), 3 * 48 - 2 * 61);
        due("30 it is less: he is too far", x.more(0, 0, 2, 0), 2 * 48 - 2 * 61);
        due("30 0 at least", x.more(0, 0, 3, 5), 0);
        due("30 TELL for both", x.more(0, 0, 4, 6), 7 + 47);
        due("30 no TELL", x.more(0, 0, 4, 5), 61);
        due("30 no TELL, two apart", x.more(0, 0, 4, 7), 20);
        due("30 a 17th", x.more(0, 0, 5, 5), 0);
        SchoolDoors y = with("above 0 40 1;teacher 1 0;" + learners(16), "even 0 0 5;" + sits(0, 15));
        due("30 a 17th", y.more(0, 0, 0, 5), 40);
        SchoolDoors z = with("above 0 40 1;crowd 15 20;teacher 1 0;" + learners(16), "even 0 0 5;" + sits(0, 14),
                "even 0 0 5;" + sits(0, 15));
        due("30 a 16th above EASY", z.more(0, 0, 0, 5), 16 * 32 - 15 * 40);
        due("30 a 17th above EASY", z.more(0, 1, 0, 5), 17 * 24 - 16 * 32);
    }

    private static void lonely(String sentence, String school, int bits) {
        SchoolDoors x = with(school);
        due("31 " + sentence + ": " + school, x.lonely(0), bits);
    }

    private static void promise31() {
        lonely("nobody", "", 0);
        lonely("no other one", learners(1), 1);
        lonely("alike", learners(2), 0);
        lonely("1 apart", "learner 5 1 1;learner 6 1 1;", 0);
        lonely("1 apart, the other way", "learner 6 1 1;learner 5 1 1;", 0);
        lonely("2 apart", "learner 5 1 1;learner 7 1 1;", 3);
        lonely("2 apart, the other way", "learner 7 1 1;learner 5 1 1;", 3);
        lonely("0 and 11", "learner 0 1 1;learner 11 1 1;", 3);
        lonely("a common EVENING", "learner 5 33 1;learner 5 48 1;", 0);
        lonely("no common EVENING", "learner 5 33 1;learner 5 30 1;", 3);
        lonely("one of three", "learner 5 1 1;learner 6 1 1;learner 6 2 1;", 4);
        lonely("PARTNERS are no others", "learner 5 1 1;learner 7 1 1;couple 0 1;", 3);
        lonely("LEARNER 15", times(15, "learner 5 31 1;") + "learner 5 32 1;", 32768);
        lonely("all 16 have some", learners(16), 0);
    }

    private static void shift(String sentence, String rules, String plan, int step) {
        SchoolDoors x = with(TABLE + "teacher 1 0;teacher 1 3;" + rules, plan);
        String before = toldOfPlan(x, 0);
        due("32 " + sentence + ": " + plan + " by " + rules, x.shift(0, 0, 0), step);
        due("32 the PLAN stays", toldOfPlan(x, 0).equals(before), true);
    }

    private static void promise32() {
        shift("nobody: the least", learners(1), "even 0 0 7;", 0);
        shift("one above", learners(1), "even 0 0 0;sits 0;", 6);
        shift("it is so", learners(1), "even 0 0 6;sits 0;", 6);
        shift("11 is the greatest", "learner 11 1 9;", "even 0 0 0;sits 0;", 11);
        shift("10 and one", "learner 10 1 9;", "even 0 0 0;sits 0;", 11);
        shift("0 and one", "learner 0 1 9;", "even 0 0 9;sits 0;", 1);
        shift("of several the least", "above 1 40 1;above 0 40 1;learner 5 1 9;", "even 0 0 9;sits 0;", 5);
        shift("of several the least, from below", "above 1 40 1;above 0 40 1;below 3 40 1;learner 5 1 9;",
                "even 0 0 9;sits 0;", 2);
        shift("TWO: in place of the first one", learners(1), "two 0 0 0 6;sits 0;", 6);
        shift("TWO: the second one counts", "learner 5 1 9;learner 9 1 9;", "two 0 0 0 10;sits 0 1;", 6);
        shift("BROAD: nearer, beyond BREADTH", learners(1), "broad 1 0 0;sits 0;", 9);
        shift("nothing is LEARNT", "crowd 1 20;" + learners(6), "even 0 0 7;" + sits(0, 5), 0);
        shift("PAIRS", "learner 5 1 9;learner 7 1 9;", "pairs 0 0 0;sits 0 1;", 6);
    }

    private static void promise33() {
        String text = "above 0 20 1;above 1 50 1;learner 5 1 1;teacher 1 0;rise 50;";
        SchoolDoors x = with(text, "even 0 0 6;sits 0;", "even 0 0 7;sits 0;", "even 0 0 6;sits 0;");
        due("33 the first one ahead is better", x.order(0, 0, 1), 0);
        due("33 the second one", x.order(0, 1, 0), 1);
        due("33 the same one", x.order(0, 0, 0), 2);
        due("33 alike", x.order(0, 0, 2), 2);
        due("33 STEPS stay", x.learner(0, 0, 0), 5);
        SchoolDoors y = with("above 0 20 1;above 1 50 1;above 2 21 1;learner 5 1 1;teacher 1 0;rise 50;", "even 0 0 6;sits 0;",
                "even 0 0 6;", "even 0 0 7;sits 0;");
        due("33 nobody SITS there: alike but for the year", y.order(0, 0, 1), 2);
        due("33 50 + 50 against 21 + 50", y.order(0, 0, 2), 0);
        text(y, 0, 0, "above 0 20 1;above 1 50 1;above 2 21 1;learner 5 1 1;teacher 1 0;rise 51;");
        due("33 RISE 51: 50 + 21 against 21 + 50", y.order(0, 0, 2), 2);
        text(y, 0, 0, "above 0 20 1;above 1 50 1;above 2 99 1;learner 5 1 1;teacher 1 0;rise 51;");
        due("33 RISE 51: 50 + 99 against 99 + 20", y.order(0, 0, 2), 0);
        text(y, 0, 0, "above 0 51 1;above 1 50 1;above 2 51 1;learner 5 1 1;teacher 1 0;rise 51;");
        due("33 by 1: 50 + 51 against 51 + 51", y.order(0, 0, 2), 1);
        due("33 by 1, the other way", y.order(0, 2, 0), 0);
        SchoolDoors z = with("", "", "");
        due("33 nothing", z.order(0, 0, 1), 2);
    }

    private static void let(String sentence, String school, String plan, int where) {
        SchoolDoors x = with("above 0 40 1;above 1 41 1;above 2 60 1;teacher 63 0;learner 5 1 9;" + school, plan);
        due("34 " + sentence + ": " + plan + " with " + school, x.let(0, 0, 0), where);
    }

    private static void promise34() {
        let("no CLASSES", "", "", -1);
        let("nothing is LEARNT", "", "even 0 0 9;", 0);
        let("it grows most", "", "even 0 0 5;even 0 0 6;even 0 0 5;", 1);
        let("of several the least", "", "even 0 0 5;even 0 0 6;even 0 0 6;", 1);
        let("he SITS somewhere", "", "even 0 0 5;even 0 0 6;sits 0;", -1);
        let("fewer than MOST", "size 1 2;" + learners(1), "even 0 0 5;even 0 0 6;sits 1;", 1);
        let("MOST being there", "size 1 2;" + learners(2), "even 0 0 5;even 0 0 6;sits 1 2;", 0);
        let("MOST 15, 14 being there", learners(14), "even 0 0 5;even 0 0 6;" + sits(1, 14), 1);
        let("15 being there", learners(15), "even 0 0 5;even 0 0 6;" + sits(1, 15), 0);
        let("all are full", "size 1 1;" + learners(1), "even 0 0 6;sits 1;", -1);
        let("fewer than LEAST", "size 5 9;", "even 0 0 5;", 0);
        let("a PRICE of FEE", "fee 9;", "even 0 0 5;", 0);
        let("a PRICE below FEE", "fee 10;", "even 0 0 5;", -1);
        let("not on that EVENING", "", "even 0 1 6;even 0 0 5;", 1);
        let("on none", "", "even 0 1 6;", -1);
        let("it grows all the same", "crowd 1 20;" + learners(4), "even 0 0 1;sits 1 2;even 0 0 9;even 0 0 7;sits 3 4;", 2);
        let("it falls", "crowd 1 20;learner 7 1 9;learner 7 1 9;learner 8 1 9;", "even 0 0 9;sits 1 2;even 0 0 9;sits 3;", 1);
        let("it falls, of several the least", "crowd 1 20;learner 7 1 9;learner 7 1 9;",
                "even 0 0 9;sits 1;even 0 0 9;sits 2;", 0);
        SchoolDoors x = with("above 0 40 1;teacher 1 0;" + learners(16), times(5, "even 0 0 1;") + "even 0 0 5;");
        due("34 LEARNER 15, CLASS 5", x.let(0, 0, 15), 5);
        due("34 no LEARNER 16", x.let(0, 0, 16), -1);
    }

    private static void june(String sentence, String rules, int step, String plan, int n, int june) {
        SchoolDoors x = with("above 0 50 1;above 1 50 1;above 2 50 1;below 1 49 1;teacher 1 0;learner " + step + " 1 1;" + rules, plan)
                ;
        due("35 " + sentence + ": " + plan + " by " + rules + ", n " + n, x.june(0, 0, 0, 0, n), june);
        due("35 the STEP stays", x.learner(0, 0, 0), step);
    }

    private static void promise35() {
        for (int n : new int[] {-1, 13, MIN, MAX}) {
            june("another n", "", 3, "even 0 0 5;sits 0;", n, -1);
        }
        june("behind 0", "", 3, "even 0 0 5;sits 0;", 0, 3);
        june("behind 1", "", 3, "even 0 0 5;sits 0;", 1, 4);
        june("behind 2", "", 3, "even 0 0 5;sits 0;", 2, 5);
        june("behind 3: RISE at least", "", 3, "even 0 0 5;sits 0;", 3, 6);
        june("behind 4: 49 is less", "", 3, "even 0 0 5;sits 0;", 4, 6);
        june("behind 12", "rise 49;", 3, "even 0 0 5;sits 0;", 12, 7);
        june("RISE 0: 12 years from 0", "rise 0;", 0, "even 0 0 5;", 12, 11);
        june("RISE 0: 11 years from 0", "rise 0;", 0, "even 0 0 5;", 11, 11);
        june("RISE 0: 10 years from 0", "rise 0;", 0, "even 0 0 5;", 10, 10);
        june("11 at most", "rise 0;", 11, "even 0 0 11;sits 0;", 1, 11);
        june("4 apart", "", 1, "even 0 0 5;sits 0;", 1, 1);
        june("who does not SIT there", "", 3, "even 0 0 5;", 12, 6);
        june("SITTING there with those who do", "crowd 1 2;learner 3 1 1;", 3, "even 0 0 5;sits 1;", 12, 3);
        june("he SITS there once", "crowd 1 2;learner 3 1 1;", 3, "even 0 0 5;sits 0;", 12, 6);
        june("as many as EASY", "crowd 2 2;learner 3 1 1;", 3, "even 0 0 5;sits 1;", 12, 6);
        june("49.5 is cut", "crowd 1 1;learner 3 1 1;", 3, "even 0 0 5;sits 1;", 12, 3);
        june("49 of 50 are RISE", "rise 49;crowd 1 2;learner 3 1 1;", 3, "even 0 0 5;sits 1;", 12, 6);
        june("all others' STEPS being as they are", "rise 60;tell 10;learner 4 1 1;", 3, "pairs 0 0 5;sits 0 1;", 12, 4);
        june("two of them", "rise 60;tell 10;learner 4 1 1;learner 5 1 1;", 3, "pairs 0 0 5;sits 1 2;", 12, 6);
        SchoolDoors x = with("rise 0;teacher 1 0;" + learners(16), times(6, "even 0 0 5;"));
        due("35 LEARNER 15, CLASS 5", x.june(0, 0, 5, 15, 1), 6);
        due("35 no LEARNER 16", x.june(0, 0, 5, 16, 1), -1);
        due("35 no CLASS 6", x.june(0, 0, 6, 15, 1), -1);
    }

    private static void merge(String sentence, String rules, String plan, int first, int second, int grows) {
        SchoolDoors x = with("above 0 40 1;above 1 60 1;teacher 63 0;" + rules, plan);
        String told = "36 " + sentence + ": " + plan + " by " + rules;
        due(told, x.merge(0, 0, 0), first);
        due(told + ", the second one", x.merge(0, 0, 1), second);
        due(told + ", by how much", x.merge(0, 0, 2), grows);
        for (int what : new int[] {-1, 3, MIN, MAX}) {
            due(told + ", another what", x.merge(0, 0, what), NO_SUM);
        }
    }

    private static void promise36() {
        merge("no CLASSES", "", "", NO_SUM, NO_SUM, NO_SUM);
        merge("one CLASS", learners(1), "even 0 0 5;sits 0;", NO_SUM, NO_SUM, NO_SUM);
        merge("two EVENINGS", learners(1), "even 0 0 5;sits 0;even 0 1 5;", NO_SUM, NO_SUM, NO_SUM);
        merge("EVENING 5", learners(1), "even 0 5 5;sits 0;even 0 4 5;even 0 5 5;", 0, 2, 0);
        merge("nobody", "", "even 0 0 5;even 0 0 5;", 0, 1, 0);
        merge("it grows", learners(2), "even 0 0 6;sits 0;even 0 0 5;sits 1;", 0, 1, 20);
        merge("it falls", learners(2), "even 0 0 5;sits 0;even 0 0 6;sits 1;", 0, 1, -20);
        merge("in one or the other", learners(2), "even 0 0 5;sits 0 1;even 0 0 6;sits 1;", 0, 1, -60);
        merge("MOST", learners(3) + "size 1 3;", "even 0 0 5;sits 0 1;even 0 0 5;sits 2;", 0, 1, 0);
        merge("above MOST", learners(4) + "size 1 3;", "even 0 0 5;sits 0 1;even 0 0 5;sits 2 3;", NO_SUM, NO_SUM, NO_SUM);
        merge("MOST, one in both", learners(3) + "size 1 3;", "even 0 0 5;sits 0 1;even 0 0 5;sits 1 2;", 0, 1, -40);
        merge("MOST 15", learners(15), "even 0 0 5;" + sits(0, 7) + "even 0 0 5;" + sits(8, 14), 0, 1, 0);
        merge("16", learners(16), "even 0 0 5;" + sits(0, 7) + "even 0 0 5;" + sits(8, 15), NO_SUM, NO_SUM, NO_SUM);
        merge("fewer than LEAST", learners(2) + "size 5 9;", "even 0 0 5;sits 0;even 0 0 5;sits 1;", 0, 1, 0);
        merge("the least first one", learners(1), times(6, "even 0 0 5;"), 0, 1, 0);
        merge("by which it grows most", learners(2), "even 0 0 5;even 0 0 6;even 0 0 5;sits 0;", 1, 2, 20);
        merge("then the least second one", learners(2), "even 0 0 6;even 0 0 5;sits 0;even 0 0 5;sits 1;", 0, 1, 20);
        merge("the least first one ahead of the least second one", learners(2),
                "even 0 0 6;even 0 1 6;even 0 1 5;sits 1;even 0 0 5;sits 0;",
                0, 3, 20);
        merge("falls least", learners(3),
                "even 0 0 5;sits 2;even 0 0 6;sits 0 1;even 0 1 5;sits 0;even 0 1 6;sits 2;", 2, 3, -20);
        merge("CLASSES 4 and 5", learners(1), "even 0 0 5;even 0 1 5;even 0 2 5;even 0 3 5;even 0 4 5;even 0 4 5;", 4, 5, 0);
        merge("EASY", learners(2) + "crowd 1 20;", "even 0 0 5;sits 0;even 0 0 5;sits 1;", 0, 1, 64 - 80);
        merge("PAIRS", "tell 7;learner 5 1 9;learner 4 1 9;", "pairs 0 0 5;sits 0;even 0 0 4;sits 1;", 0, 1, 47 + 67 - 80);
    }

    private static void open(String sentence, String school, String plan, int step, int evening) {
        SchoolDoors x = with("above 0 40 1;above 3 1 1;below 3 1 1;" + school, plan);
        due("37 " + sentence + ": step " + step + ", " + plan + " in " + school, x.open(0, 0, step), evening);
    }

    private static void promise37() {
        String all = "teacher 63 0;";
        for (int step : new int[] {-1, 12, MIN, MAX}) {
            open("another step", all + "learner 0 1 9;learner 11 1 9;above 1 1 1;below 1 1 1;", "", step, -1);
        }
        open("step 0", all + "learner 0 1 9;", "", 0, 0);
        open("step 11", all + "learner 11 1 9;", "", 11, 0);
        open("nobody at home", all + learners(1), "even 0 1 5;sits 0;", 5, -1);
        open("no LEARNERS", all, "", 5, -1);
        open("no TEACHER", learners(1), "", 5, -1);
        open("no TEACHER then", learners(1) + "teacher 62 0;", "", 5, -1);
        open("EVENING 5", all + "learner 5 32 9;", "", 5, 5);
        open("a BASE of 1, 3 above", all + learners(1), "", 8, 0);
        open("a BASE of 1, 3 below", all + learners(1), "", 2, 0);
        open("4 above", all + learners(1), "", 9, -1);
        open("4 below", all + learners(1), "", 1, -1);
        open("a BASE of 0", all + learners(1), "", 6, -1);
        open("a PRICE of FEE", all + learners(1) + "fee 9;", "", 5, 0);
        open("a PRICE below FEE", all + learners(1) + "fee 10;", "", 5, -1);
        open("LEAST", all + learners(2) + "size 2 9;", "", 5, 0);
        open("fewer than LEAST", all + learners(1) + "size 2 9;", "", 5, -1);
        open("one SITS elsewhere", all + learners(2) + "size 2 9;", "even 0 1 5;sits 1;", 5, -1);
        open("above MOST", all + learners(2) + "size 1 1;", "", 5, 0);
        open("he has a CLASS then", all + learners(1), "even 0 0 5;", 5, -1);
        open("he has one on another EVENING", all + learners(1), "even 0 1 5;", 5, 0);
        open("another TEACHER has none", all + all + learners(1), "even 0 0 5;", 5, 0);
        open("all have", all + all + learners(1), "even 0 0 5;even 1 0 5;", 5, -1);
        open("TEACHER 4", times(5, all) + learners(1), "even 0 0 5;even 1 0 5;even 2 0 5;even 3 0 5;", 5, 0);
        open("one fewer than ROOMS", all + all + learners(1) + "rooms 2;", "even 0 0 5;", 5, 0);
        open("as many as ROOMS", all + all + learners(1) + "rooms 1;", "even 0 0 5;", 5, -1);
        open("more than ROOMS", all + all + learners(1) + "rooms 1;", "even 0 0 5;even 0 0 5;", 5, -1);
        open("ROOMS on another EVENING", all + learners(1) + "rooms 1;", "even 0 1 5;even 0 1 5;", 5, 0);
        open("most of these", all + "learner 5 3 9;learner 5 2 9;", "", 5, 1);
        open("of several the least", all + "learner 5 62 9;learner 5 63 9;", "", 5, 1);
        open("most come when no TEACHER is there", "teacher 61 0;learner 5 3 9;learner 5 2 9;", "", 5, 0);
        open("those who count alone", all + "learner 5 3 9;learner 5 1 9;learner 9 2 9;learner 9 2 9;", "", 5, 0);
    }

    private static void promise38() {
        SchoolDoors x = with("learner 1 1 0;learner 1 1 500;learner 1 1 999;" + times(12,
                "learner 1 1 999;") + "learner 1 1 998;");
        int[][] offs = {{-1, -1}, {0, 0}, {1, 1}, {499, 1}, {500, 1}, {501, 3}, {998, 3}, {999, 32771}, {1000, -1},
                {MIN, -1}, {MAX, -1}};
        for (int[] off : offs) {
            due("38 by " + off[0], x.off(0, off[0]), off[1]);
        }
        SchoolDoors y = with("");
        due("38 nobody", y.off(0, 999), 0);
        SchoolDoors z = with(times(16, "learner 1 1 0;") + "fee 9;");
        due("38 all", z.off(0, 1), 65535);
    }

    private static void promise40() {
        SchoolDoors x = with("teacher 1 0;learner 0 1 1;learner 11 1 1;learner 5 1 1;learner 5 1 1;learner 6 1 1;" + times(10, "learner 3 1 1;"
                )
                + "learner 10 1 1;", "even 0 0 0;even 0 0 0;sits 0;even 0 0 0;sits 0 1;even 0 0 0;sits 2 3;even 0 0 0;sits 2 4;"
                + "even 0 0 0;sits 4 15 2;");
        int[] spreads = {-1, 0, 11, 0, 1, 5, -1};
        for (int k = 0; k < spreads.length; k++) {
            due("40 CLASS " + k, x.spread(0, 0, k), spreads[k]);
        }
        due("40 somebody, from now on", x.sit(0, 0, 1, true) ? x.spread(0, 0, 0) : -9, 0);
    }

    private static void toll(String sentence, int fee, int seats, int classes, int toll) {
        StringBuilder plan = new StringBuilder();
        for (int k = 0; k < classes; k++) {
            plan.append("even 0 0 0;").append(k == 0 && seats > 0 ? sits(0, seats - 1) : "");
        }
        SchoolDoors x = with("teacher 1 0;cost 77;fee " + fee + ";" + learners(16), plan.toString());
        due("41 " + sentence + ": FEE " + fee + ", seats " + seats + ", CLASSES " + classes, x.toll(0, 0), toll);
        if (toll < 1000) {
            for (int cost = toll - 1; cost <= toll; cost++) {
                text(x, 0, 0, "teacher 1 0;cost " + cost + ";fee " + fee + ";" + learners(16));
                due("41 COIN by COST " + cost + " is below 0", x.coin(0, 0) < 0, cost == toll);
            }
        }
    }

    private static void promise41() {
        toll("without CLASSES", 0, 0, 0, 1000);
        toll("nobody pays", 0, 5, 1, 1);
        toll("nobody SITS", 999, 0, 6, 1);
        toll("just 0 is not below", 40, 5, 2, 101);
        toll("cut", 41, 5, 2, 103);
        toll("less than one each", 1, 5, 6, 1);
        toll("just one each", 1, 6, 6, 2);
        toll("998", 998, 1, 1, 999);
        toll("999", 999, 1, 1, 1000);
        toll("1000 at most", 999, 2, 1, 1000);
        toll("1000 at most", 999, 16, 1, 1000);
        toll("1000 at most", 999, 16, 6, 1000);
        toll("374", 374, 16, 6, 998);
        toll("375", 375, 16, 6, 1000);
    }

    private static void promise42() {
        SchoolDoors x = with("teacher 63 0;teacher 32 0;teacher 31 0;teacher 1 0;teacher 1 0;",
                "even 0 0 0;even 0 1 0;even 0 2 0;even 0 3 0;"
                + "even 0 4 0;even 0 5 0;", "even 1 5 0;even 1 4 0;even 2 5 0;even 2 4 0;even 2 4 0;even 4 0 0;");
        int[][] busy = {{6, 0, 0, 0, 0}, {0, 1, 1, 0, 1}};
        for (int p = 0; p < 2; p++) {
            for (int t = 0; t < 5; t++) {
                due("42 TEACHER " + t + " in PLAN " + p, x.busy(0, p, t), busy[p][t]);
            }
        }
        for (int t : new int[] {-1, 5, MIN, MAX}) {
            due("42 no TEACHER " + t, x.busy(0, 0, t), -1);
        }
        SchoolDoors y = with("", "");
        due("42 TEACHER 0 of none", y.busy(0, 0, 0), -1);
    }

    private static void promise44() {
        SchoolDoors x = new SchoolDoors();
        for (int n = 0; n <= 3; n++) {
            due("44 SCHOOLS", x.count(0), n);
            due("44 PLANS", x.count(1), n);
            text(x, 0, -1, "");
            text(x, 1, -1, "");
        }
        for (int what : new int[] {-1, 2, MIN, MAX}) {
            due("44 another what", x.count(what), -2);
        }
        due("44 in the place of one", text(x, 0, 1, "") + x.count(0), 4);
    }

    private static void promises45And46() {
        SchoolDoors x = with("learner 5 1 1;fee 7;teacher 1 1;", "even 0 0 1;");
        text(x, 0, -1, "  rooms 10;");
        feed(x, "fee 8;");
        String first = state(x);
        for (int k : new int[] {-1, 3, MIN, MAX}) {
            due("45 another k", x.image(k), false);
            due("46 none such", x.again(k), false);
        }
        due("46 not made yet", x.again(0) || x.again(1) || x.again(2), false);
        due("46 nothing has changed", state(x).equals(first), true);
        due("45 image 0", x.image(0), true);
        due("46 2 is not made yet", x.again(2), false);
        text(x, 0, -1, "learner 1 1 1;" + TABLE);
        text(x, 1, -1, "two 4 5 6 7;sits 3;");
        text(x, 1, -1, "sits 0;");
        x.sit(0, 0, 15, true);
        feed(x, blanks(600));
        String second = state(x);
        due("45 image 2", x.image(2), true);
        due("46 again, all of it", x.again(0) && state(x).equals(first), true);
        due("46 1 is not made yet", x.again(1), false);
        due("46 the tape's bytes", x.text(0, 0), 0);
        due("46 FEE 8", x.about(0, 8), 8);
        due("46 another image stays", x.again(2) && state(x).equals(second), true);
        due("46 its tape of 600", x.feed(0, 0, 0, 0, 0), -1);
        due("46 of blanks", x.text(0, -1), 2);
        due("46 the first one once more", x.again(0) && state(x).equals(first), true);
        due("45 in the place of another one", x.again(2) && x.image(0), true);
        due("45 what was there is gone", x.again(0) && state(x).equals(second), true);
        SchoolDoors y = new SchoolDoors();
        due("45 of nothing", y.image(1), true);
        text(y, 0, -1, "rooms 0;");
        text(y, 0, -1, "fee 7;");
        text(y, 1, -1, "even 0 0 0;");
        feed(y, "fee 7;");
        due("46 nothing again", y.again(1), true);
        due("46 no SCHOOLS, no PLANS", y.count(0) + y.count(1), 0);
        due("46 no tape", y.end(1), -1);
        due("46 a further one is the first", text(y, 0, -1, ""), 0);
        due("46 with nothing of the old one", y.about(0, 8), 0);
    }

    public static void main(String[] args) {
        promise23();
        promises24And43();
        promise25();
        promise26();
        promises27And28And39();
        promise29();
        promise30();
        promise31();
        promise32();
        promise33();
        promise34();
        promise35();
        promise36();
        promise37();
        promise38();
        promise40();
        promise41();
        promise42();
        promise44();
        promises45And46();
        end();
    }
}
