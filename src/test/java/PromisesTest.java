/** The promises one by one, with answers worked out by hand: ordinary calls, edges, wrong inputs. */
public final class PromisesTest {
    private static final int NO_SUM = -1000000;
    private static int wrong = 0;
    private static int checks = 0;

    private static void due(int promise, String what, long got, long want) {
        checks++;
        if (got != want) {
            wrong++;
            System.out.println("promise " + promise + ": " + what + " answered " + got + ", due is " + want);
        }
    }

    private static void due(int promise, String what, boolean got, boolean want) {
        due(promise, what, got ? 1 : 0, want ? 1 : 0);
    }

    private static void feed(SchoolDoors x, String text) {
        byte[] bytes = new byte[(text.length() + 19) / 20 * 20];
        for (int i = 0; i < text.length(); i++) {
            bytes[i] = (byte) text.charAt(i);
        }
        int[] n = new int[5];
        for (int at = 0; at < bytes.length; at += 20) {
            for (int i = 0; i < 5; i++) {
                n[i] = 0;
                for (int j = 0; j < 4; j++) {
                    n[i] = n[i] << 8 | bytes[at + 4 * i + j] & 255;
                }
            }
            x.feed(n[0], n[1], n[2], n[3], n[4]);
        }
        x.end(text.length());
    }

    private static int school(SchoolDoors x, String text) {
        feed(x, text);
        return x.text(0, -1);
    }

    private static int plan(SchoolDoors x, String text) {
        feed(x, text);
        return x.text(1, -1);
    }

    private static SchoolDoors with(String school, String... plans) {
        SchoolDoors x = new SchoolDoors();
        due(4, "school " + school, school(x, school), 0);
        for (int i = 0; i < plans.length; i++) {
            due(4, "plan " + plans[i], plan(x, plans[i]), i);
        }
        return x;
    }

    private static void promise1() {
        SchoolDoors x = new SchoolDoors();
        due(1, "count(0)", x.count(0), 0);
        due(1, "count(1)", x.count(1), 0);
        due(1, "end(0)", x.end(0), 0);
        due(1, "end(1)", x.end(1), -1);
        due(1, "fault(0)", x.fault(0), 0);
        due(1, "fault(1)", x.fault(1), -1);
        for (int k = -1; k <= 3; k++) {
            due(1, "again", x.again(k), false);
        }
        due(1, "NONE", SchoolDoors.NONE, -1);
    }

    private static void promise2() {
        SchoolDoors x = new SchoolDoors();
        for (int i = 1; i <= 30; i++) {
            due(2, "feed", x.feed(0x20202020, 0x0a0a0a0a, 0x20202020, 0x20202020, 0x20202020), 20 * i);
        }
        due(2, "a feed too many", x.feed(0, 0, 0, 0, 0), -1);
        due(2, "nothing came", x.end(600), 600);
        due(2, "blanks are a school", x.text(0, -1), 0);
        x.feed(0x20202020, 0x20202020, 0x20202020, 0x20202020, 0x20202020);
        x.end(13);
        due(2, "feed behind 13", x.feed(0x66656520, 0x363b8020, 0, 0, 0), 33);
        due(2, "text", x.text(0, -1), -1);
        due(2, "the highest byte is first", x.fault(1), 19);
        for (int i = 0; i < 29; i++) {
            x.feed(0, 0, 0, 0, 0);
        }
        x.end(579);
        due(2, "599 are no more than 600", x.feed(0, 0, 0, 0, 0), 599);
        due(2, "601 are", x.end(581) + x.feed(0, 0, 0, 0, 0), 580);
    }

    private static void promise3() {
        SchoolDoors x = new SchoolDoors();
        due(3, "below 0", x.end(-1), -1);
        x.feed(1, 2, 3, 4, 5);
        due(3, "not so many", x.end(21), -1);
        due(3, "all", x.end(20), 20);
        due(3, "some", x.end(7), 7);
        due(3, "gone", x.end(8), -1);
        due(3, "far below", x.end(Integer.MIN_VALUE), -1);
        due(3, "feed then", x.feed(1, 2, 3, 4, 5), 27);
        due(3, "none", x.end(0), 0);
    }

    private static void promise4() {
        SchoolDoors x = new SchoolDoors();
        for (int i = 0; i < 3; i++) {
            due(4, "school", school(x, "fee " + i + ";"), i);
            due(4, "plan", plan(x, i == 0 ? "" : "even 0 0 " + i + ";"), i);
        }
        due(4, "a 4th school", school(x, "fee 9;"), -2);
        due(4, "the tape is empty", x.end(1), -1);
        due(4, "a 4th plan", plan(x, "even 0 0 9;"), -2);
        feed(x, "fee 7;fee 8;");
        due(4, "in the place of 1", x.text(0, 1), 1);
        due(4, "its fee: the later one strikes", x.about(1, 8), 8);
        due(4, "others' fee", x.about(2, 8), 2);
        due(4, "taken", x.end(1), -1);
        feed(x, "two 1 2 3 4;");
        due(4, "plan in the place of 0", x.text(1, 0), 0);
        due(4, "it is there", x.plan(0, 0, 4), 4);
        feed(x, "fee 1000;");
        due(4, "fault", x.text(0, 2), -1);
        due(4, "the tape is empty behind it", x.end(1), -1);
        due(4, "all stays", x.about(2, 8), 2);
        int[][] bad = {{0, 3}, {0, -2}, {1, 3}, {1, -2}, {2, -1}, {-1, 0}, {2, 0}};
        for (int[] b : bad) {
            feed(x, "?");
            due(4, "text " + b[0] + " " + b[1], x.text(b[0], b[1]), -2);
            due(4, "no fault", x.fault(0), 0);
            due(4, "no place", x.fault(1), -1);
            due(4, "empty", x.end(1), -1);
        }
        SchoolDoors y = new SchoolDoors();
        due(4, "no school in the place of none", y.text(0, 0), -2);
        partners();
    }

    private static void partners() {
        SchoolDoors x = with("learner 1 1 1;learner 1 1 1;learner 1 1 1;learner 1 1 1;"
                + "couple 0 1;couple 2 3;couple 1 2;perhaps 0 40;perhaps 0 0;perhaps 3 7;");
        int[] want = {-1, 2, 1, -1};
        for (int i = 0; i < 4; i++) {
            due(4, "partner of " + i, x.learner(0, i, 3), want[i]);
        }
        due(4, "later chances strike", x.learner(0, 0, 4), 0);
        due(4, "chance", x.learner(0, 3, 4), 7);
        SchoolDoors y = with("learner 1 1 1;learner 1 1 1;couple 0 1;couple 1 0;");
        due(4, "told twice", y.learner(0, 0, 3), 1);
        due(4, "told twice", y.learner(0, 1, 3), 0);
    }

    private static void fault(String text, int sort, int fault, int place) {
        SchoolDoors x = new SchoolDoors();
        feed(x, text);
        due(5, "text " + text, x.text(sort, -1), fault == 0 ? 0 : -1);
        due(5, "fault of " + text, x.fault(0), fault);
        due(5, "place of " + text, x.fault(1), place);
    }

    private static void promise5() {
        fault("", 0, 0, -1);
        fault(" \n", 1, 0, -1);
        fault("learner1 1 1;", 0, 0, -1);
        fault("fee 007;", 0, 0, -1);
        fault("fee 7", 0, 1, 5);
        fault("fee 7 \n", 0, 1, 7);
        fault("fee", 0, 1, 3);
        fault("fe", 0, 1, 0);
        fault("feee 7;", 0, 1, 0);
        fault(" fee 7;;", 0, 1, 7);
        fault("fee 0007;", 0, 1, 4);
        fault("fee 7 8;", 0, 1, 6);
        fault("fee x;", 0, 1, 4);
        fault("fee\t7;", 0, 1, 3);
        fault("Fee 7;", 0, 1, 0);
        fault("fee 7;\u00e9", 0, 1, 6);
        fault("rooms 0;fee 7", 0, 1, 13);
        fault("rooms 0;weeks 0;", 0, 2, 6);
        fault("size 2 1;", 0, 2, 7);
        fault("size 0 5;", 0, 2, 5);
        fault("size 16 15;", 0, 2, 5);
        fault("learner 1 1 1;couple 0 1;learner 1 1 1;", 0, 2, 23);
        fault("learner 12 0 1;", 0, 2, 8);
        fault("long 201;", 0, 2, 5);
        fault("above 0 0 0;below 3 99 100;", 0, 0, -1);
        fault("even 0 0 0;sits 3 3 0 15;", 1, 0, -1);
        fault("sits 16;even 0 0 12;", 1, 4, 0);
        fault("even 0 0 12;sits 1;", 1, 2, 9);
        fault("sits;", 1, 1, 4);
        fault("even 0 0 0;even 0 0 0;even 0 0 0;even 0 0 0;even 0 0 0;even 0 0 0;\ntwo 5 0 0 0;", 1, 3, 67);
        fault("fee 7;", 1, 1, 0);
        StringBuilder many = new StringBuilder();
        for (int i = 0; i < 16; i++) {
            many.append("learner 0 1 0;");
        }
        fault(many.toString(), 0, 0, -1);
        fault(many + "learner 12 1 0;", 0, 3, 224);
        fault("teacher 1 0;teacher 1 0;teacher 1 0;teacher 1 0;teacher 1 0;", 0, 0, -1);
        fault("teacher 1 0;teacher 1 0;teacher 1 0;teacher 1 0;teacher 1 0; teacher 0 0;", 0, 3, 61);
        behindTheEnd();
        SchoolDoors x = new SchoolDoors();
        school(x, "rooms 10;");
        due(5, "another what", x.fault(2), -1);
        due(5, "another what", x.fault(-1), -1);
        due(5, "still", x.fault(0), 2);
        school(x, "rooms 9;");
        due(5, "the latest alone", x.fault(0), 0);
        due(5, "its place", x.fault(1), -1);
    }

    /** Bytes that end() took off are no part of a token. */
    private static void behindTheEnd() {
        SchoolDoors x = new SchoolDoors();
        feed(x, "rooms 95;");
        x.end(7);
        due(5, "cut", x.text(0, -1), -1);
        due(5, "cut in a number", x.fault(1), 7);
        feed(x, "feex");
        x.end(3);
        due(5, "cut", x.text(0, -1), -1);
        due(5, "cut in a word", x.fault(1), 3);
    }

    private static void promise6() {
        SchoolDoors x = with("", "");
        int[] first = {0, 0, 15, 0, 1, 15, 9, 0, 0, 10, 50, 0, 100};
        for (int i = 0; i < first.length; i++) {
            due(6, "at first, what " + i, x.about(0, i), first[i]);
        }
        for (int i = 40; i <= 46; i++) {
            due(6, "learnt at first", x.about(0, i), 0);
            due(6, "stay at first", x.about(0, i + 10), 100);
        }
        SchoolDoors y = with("teacher 63 3;teacher 5 0;above 3 1 2;below 3 3 4;above 0 5 6;crowd 3 4;size 2 7;rooms 8;"
                + "cost 9;fee 10;weeks 11;rise 12;tell 13;long 14;learner 0 1 0;");
        int[] told = {1, 2, 3, 4, 2, 7, 8, 9, 10, 11, 12, 13, 14};
        for (int i = 0; i < told.length; i++) {
            due(6, "told, what " + i, y.about(0, i), told[i]);
        }
        int[][] more = {{20, 63}, {21, 5}, {22, -1}, {30, 3}, {31, 0}, {32, -1}, {46, 1}, {56, 2}, {40, 3}, {50, 4},
            {43, 5}, {53, 6}, {-1, -1}, {13, -1}, {19, -1}, {29, -1}, {39, -1}, {47, -1}, {49, -1}, {57, -1},
            {Integer.MAX_VALUE, -1}, {Integer.MIN_VALUE, -1}};
        for (int[] m : more) {
            due(6, "what " + m[0], y.about(0, m[0]), m[1]);
        }
        due(6, "no such school", y.about(1, 0), -1);
        due(6, "no such school", y.about(-1, 0), -1);
    }

    private static void promise7() {
        SchoolDoors x = with("learner 11 63 999;learner 0 1 0;couple 1 0;perhaps 1 100;");
        int[][] want = {{11, 63, 999, 1, 0}, {0, 1, 0, 0, 100}};
        for (int i = 0; i < 2; i++) {
            for (int what = 0; what < 5; what++) {
                due(7, "learner " + i + " what " + what, x.learner(0, i, what), want[i][what]);
            }
        }
        due(7, "another what", x.learner(0, 0, 5), -2);
        due(7, "another what", x.learner(0, 0, -1), -2);
        due(7, "no such learner", x.learner(0, 2, 0), -2);
        due(7, "no such learner", x.learner(0, -1, 0), -2);
        due(7, "no such school", x.learner(1, 0, 0), -2);
        due(7, "no such school", x.learner(-1, 0, 0), -2);
    }

    private static void promise8() {
        SchoolDoors x = with("", "even 0 1 2;two 1 2 3 4;sits 0;sits 15 2;broad 2 3 4;long 3 4 5;pairs 4 5 6;sits 1;", "");
        int[][] want = {{0, 0, 1, 2, -1, 0}, {1, 1, 2, 3, 4, 0x8005}, {2, 2, 3, 4, -1, 0}, {3, 3, 4, 5, -1, 0},
            {4, 4, 5, 6, -1, 2}};
        for (int k = 0; k < 5; k++) {
            for (int what = 0; what < 6; what++) {
                due(8, "class " + k + " what " + what, x.plan(0, k, what), want[k][what]);
            }
        }
        due(8, "classes", x.plan(0, -1, 0), 5);
        due(8, "no classes", x.plan(1, -1, 0), 0);
        due(8, "another what", x.plan(0, -1, 1), -2);
        due(8, "another what", x.plan(0, 0, 6), -2);
        due(8, "another what", x.plan(0, 0, -1), -2);
        due(8, "no such class", x.plan(0, 5, 0), -2);
        due(8, "no such class", x.plan(0, -2, 0), -2);
        due(8, "no such plan", x.plan(2, -1, 0), -2);
        due(8, "no such plan", x.plan(-1, 0, 0), -2);
    }

    private static void promise9() {
        SchoolDoors x = with("learner 1 1 1;teacher 1 1;", "even 0 0 0;sits 0;", "even 1 0 0;", "even 0 0 0;sits 1;");
        due(9, "goes", x.goes(0, 0), true);
        due(9, "no such teacher", x.goes(0, 1), false);
        due(9, "no such learner", x.goes(0, 2), false);
        x.sit(2, 0, 1, false);
        due(9, "behind sit", x.goes(0, 2), true);
        due(9, "no such school", x.goes(1, 0), false);
        due(9, "no such plan", x.goes(0, 3), false);
        due(9, "below", x.goes(-1, -1), false);
        SchoolDoors y = with("", "");
        due(9, "nothing goes everywhere", y.goes(0, 0), true);
    }

    private static void promise10() {
        SchoolDoors x = with("", "even 0 0 0;");
        due(10, "new", x.sit(0, 0, 15, true), true);
        due(10, "it is so", x.plan(0, 0, 5), 0x8000);
        due(10, "not new", x.sit(0, 0, 15, true), false);
        due(10, "not there", x.sit(0, 0, 3, false), false);
        due(10, "goes", x.sit(0, 0, 15, false), true);
        due(10, "it is so", x.plan(0, 0, 5), 0);
        int[][] bad = {{0, 0, 16}, {0, 0, -1}, {0, 1, 0}, {0, -1, 0}, {1, 0, 0}, {-1, 0, 0}};
        for (int[] b : bad) {
            due(10, "none such", x.sit(b[0], b[1], b[2], true), false);
            due(10, "none such", x.sit(b[0], b[1], b[2], false), false);
        }
        due(10, "nothing came", x.plan(0, 0, 5), 0);
    }

    private static final String TABLE = "above 0 40 90;above 1 61 80;above 2 30 70;above 3 9 60;"
            + "below 1 20 50;below 2 10 40;below 3 5 30;";

    private static void promise11() {
        SchoolDoors x = with(TABLE + "learner 5 1 1;learner 4 1 1;learner 9 1 1;teacher 1 1;teacher 1 0;tell 7;long 150;",
                "even 0 0 6;two 0 0 6 7;broad 0 0 7;broad 0 0 5;broad 1 0 7;long 0 0 6;",
                "pairs 0 0 6;sits 0;pairs 0 0 6;sits 0 1;broad 0 0 2;even 0 0 1;even 0 0 0;two 0 0 0 8;");
        int[] first = {61, (61 + 30) / 2, 61, 40, 30, 91};
        for (int k = 0; k < 6; k++) {
            due(11, "fit of STEP 5 in class " + k, x.fit(0, 0, k, 0), first[k]);
        }
        int[] second = {30, 19, 30, 40, 9, 45};
        for (int k = 0; k < 6; k++) {
            due(11, "fit of STEP 4 in class " + k, x.fit(0, 0, k, 1), second[k]);
        }
        due(11, "pairs alone", x.fit(0, 1, 0, 0), 61);
        due(11, "pairs, who does not sit there", x.fit(0, 1, 0, 1), 37);
        due(11, "pairs with one", x.fit(0, 1, 1, 0), 68);
        due(11, "pairs far off", x.fit(0, 1, 1, 2), 5);
        due(11, "broad from below", x.fit(0, 1, 2, 0), 10);
        due(11, "4 apart", x.fit(0, 1, 3, 0), 0);
        due(11, "5 apart", x.fit(0, 1, 4, 0), 0);
        due(11, "two, one too far", x.fit(0, 1, 5, 0), 4);
        due(11, "no such learner", x.fit(0, 0, 0, 3), -1);
        due(11, "no such learner", x.fit(0, 0, 0, -1), -1);
        due(11, "no such class", x.fit(0, 0, 6, 0), -1);
        due(11, "no such class", x.fit(0, 0, -1, 0), -1);
        due(11, "no such plan", x.fit(0, 2, 0, 0), -1);
        due(11, "no such school", x.fit(1, 0, 0, 0), -1);
        x.sit(0, 0, 9, true);
        due(11, "does not go", x.fit(0, 0, 1, 0), -1);
    }

    private static void promise12() {
        SchoolDoors x = with(TABLE + "learner 5 1 1;learner 4 1 1;learner 9 1 1;teacher 1 1;crowd 1 20;",
                "even 0 0 6;sits 0 1;even 0 0 5;sits 0;even 0 0 0;", "even 0 0 0;sits 3;");
        due(12, "one of two", x.learnt(0, 0, 0, 0), 61 * 80 / 100);
        due(12, "the other", x.learnt(0, 0, 0, 1), 24);
        due(12, "both", x.learnt(0, 0, 0, -1), 72);
        due(12, "alone", x.learnt(0, 0, 1, 0), 40);
        due(12, "nobody", x.learnt(0, 0, 2, -1), 0);
        due(12, "plan", x.learnt(0, 0, -1, -1), 112);
        due(12, "he does not sit there", x.learnt(0, 0, 1, 1), -1);
        due(12, "of no class", x.learnt(0, 0, -1, 0), -1);
        due(12, "no such learner", x.learnt(0, 0, 0, 3), -1);
        due(12, "no such learner", x.learnt(0, 0, 0, -2), -1);
        due(12, "no such class", x.learnt(0, 0, 3, -1), -1);
        due(12, "no such class", x.learnt(0, 0, -2, -1), -1);
        due(12, "does not go", x.learnt(0, 1, -1, -1), -1);
        due(12, "no such plan", x.learnt(0, 2, -1, -1), -1);
        due(12, "no such school", x.learnt(-1, 0, -1, -1), -1);
        SchoolDoors y = with("above 0 99 1;crowd 1 20;teacher 1 1;learner 1 1 1;learner 1 1 1;learner 1 1 1;learner 1 1 1;"
                + "learner 1 1 1;learner 1 1 1;learner 1 1 1;", "even 0 0 1;sits 0 1 2 3 4 5 6;");
        due(12, "0 at least", y.learnt(0, 0, 0, -1), 0);
    }

    private static void wrongs(String plan, int which, int k, int who) {
        SchoolDoors x = with("learner 1 1 9;learner 1 3 9;learner 1 3 1;learner 1 63 9;learner 1 63 9;learner 1 63 9;couple 3 4;"
                + "teacher 7 0;teacher 7 0;teacher 7 0;size 1 2;rooms 2;fee 5;", plan);
        due(13, "which in " + plan, x.wrong(0, 0, 0), which);
        due(13, "class in " + plan, x.wrong(0, 0, 1), k);
        due(13, "learner in " + plan, x.wrong(0, 0, 2), who);
        due(13, "another what", x.wrong(0, 0, 3), -1);
        due(13, "another what", x.wrong(0, 0, -1), -1);
    }

    private static void promise13() {
        wrongs("", 0, -1, -1);
        wrongs("even 0 0 1;sits 0 1;even 0 1 1;sits 3 4;", 0, -1, -1);
        wrongs("even 0 3 1;", 1, 0, -1);
        wrongs("even 0 0 1;sits 0;even 0 0 1;sits 1;", 2, 1, -1);
        wrongs("even 0 0 1;sits 0;even 1 0 1;sits 1;even 2 0 1;sits 5;", 3, 2, -1);
        wrongs("even 0 0 1;sits 0;even 1 1 1;", 4, 1, -1);
        wrongs("even 0 0 1;sits 0 1 2;", 5, 0, -1);
        wrongs("even 0 1 1;sits 0 2;", 6, 0, 0);
        wrongs("even 0 0 1;sits 0;even 0 1 1;sits 5;even 1 0 1;sits 0;", 7, 2, 0);
        wrongs("even 0 1 1;sits 5 2;", 8, 0, 2);
        wrongs("even 0 0 1;sits 0 4;even 1 0 1;sits 3;", 9, 0, 4);
        SchoolDoors x = with("teacher 1 1;", "even 1 0 0;");
        due(13, "does not go", x.wrong(0, 0, 0), -1);
        due(13, "no such plan", x.wrong(0, 1, 0), -1);
        due(13, "no such school", x.wrong(1, 0, 0), -1);
    }

    private static void promises14And15() {
        SchoolDoors x = with("learner 1 1 9;learner 1 1 9;learner 1 1 9;teacher 1 1;fee 30;cost 100;",
                "even 0 0 0;sits 0 2;even 0 0 0;sits 0;", "", "even 1 0 0;");
        due(14, "home", x.home(0, 0), 2);
        due(14, "all at home", x.home(0, 1), 7);
        due(15, "coin", x.coin(0, 0), -110);
        due(15, "without classes", x.coin(0, 1), 0);
        due(14, "does not go", x.home(0, 2), -1);
        due(15, "does not go", x.coin(0, 2), NO_SUM);
        due(14, "no such plan", x.home(0, 3), -1);
        due(15, "no such school", x.coin(1, 0), NO_SUM);
        due(14, "no such school", x.home(-1, 0), -1);
    }

    private static void promise16() {
        SchoolDoors x = with("above 0 10 1;above 1 10 1;learner 4 1 1;learner 2 1 1;learner 2 1 1;learner 9 1 1;size 1 3;");
        int[][] want = {{0, 40}, {1, 3}, {10, 2}, {11, 1}, {12, 1}, {13, -1}, {20, 2}, {21, 4}, {22, 9}, {23, -1},
            {30, 1}, {31, 2}, {32, 0}, {33, 3}, {34, -1}, {2, -1}, {9, -1}, {-1, -1}};
        for (int[] w : want) {
            due(16, "line of 6, what " + w[0], x.line(0, 6, w[0]), w[1]);
        }
        due(16, "two classes", x.line(0, 2, 0), 30);
        due(16, "the fewest in the first one", x.line(0, 2, 10), 2);
        due(16, "of 9 and 4: the least step", x.line(0, 2, 21), 4);
        due(16, "one class is too small", x.line(0, 1, 0), -1);
        due(16, "there is none", x.line(0, 1, 30), -1);
        due(16, "no such k", x.line(0, 0, 0), -1);
        due(16, "no such k", x.line(0, 7, 0), -1);
        due(16, "no such school", x.line(1, 1, 0), -1);
        SchoolDoors y = with("above 1 50 1;learner 11 1 1;learner 11 1 1;learner 11 1 1;learner 11 1 1;size 1 3;");
        due(16, "nothing is learnt", y.line(0, 4, 0), 0);
        due(16, "the fewest classes", y.line(0, 4, 1), 2);
        due(16, "the fewest ahead", y.line(0, 4, 10), 1);
        due(16, "the least step", y.line(0, 4, 20), 0);
    }

    private static void promise17() {
        SchoolDoors x = with("above 0 10 1;learner 4 1 9;learner 4 1 9;learner 4 1 9;learner 4 2 9;learner 4 1 1;fee 5;size 2 2;"
                + "teacher 3 0;", "even 0 0 4;even 0 0 4;even 0 1 4;");
        int[] row = {0, 0, -1, -1, -1};
        due(17, "learnt", x.seats(0, 0, 0), 20);
        for (int i = 0; i < row.length; i++) {
            due(17, "class of " + i, x.seats(0, 0, 10 + i), row[i]);
        }
        due(17, "no such learner", x.seats(0, 0, 15), -2);
        due(17, "another what", x.seats(0, 0, 1), -2);
        due(17, "another what", x.seats(0, 0, 9), -2);
        due(17, "another what", x.seats(0, 0, -1), -2);
        SchoolDoors y = with("above 0 10 1;learner 4 1 9;learner 4 3 9;learner 4 3 9;couple 0 2;size 1 2;teacher 3 0;",
                "even 0 0 4;even 0 1 4;");
        due(17, "partners sit together", y.seats(0, 0, 10) * 10 + y.seats(0, 0, 12), 0);
        due(17, "the third one elsewhere", y.seats(0, 0, 11), 1);
        due(17, "all learn", y.seats(0, 0, 0), 30);
        StringBuilder nine = new StringBuilder("teacher 1 1;");
        for (int i = 0; i < 9; i++) {
            nine.append("learner 1 1 1;");
        }
        SchoolDoors z = with(nine.toString(), "even 0 0 0;");
        due(17, "nine learners", z.seats(0, 0, 0), -2);
        SchoolDoors v = with("teacher 1 1;", "even 0 0 0;even 0 0 0;even 0 0 0;even 0 0 0;", "even 1 0 0;", "");
        due(17, "four classes", v.seats(0, 0, 0), -2);
        due(17, "does not go", v.seats(0, 1, 0), -2);
        due(17, "nothing", v.seats(0, 2, 0), 0);
        due(17, "no such plan", v.seats(0, 3, 0), -2);
        due(17, "no such school", v.seats(1, 2, 0), -2);
    }

    private static void promise18() {
        String learners = "learner 1 1 9;learner 1 1 9;learner 1 2 9;learner 1 3 9;teacher 3 0;";
        SchoolDoors x = with(learners + "size 2 3;", "even 0 0 1;even 0 1 1;even 0 0 1;", "even 0 0 1;even 0 1 1;", "even 0 0 1;");
        due(18, "two, the least bits", x.fewest(0, 0), 3);
        due(18, "LEAST and MOST", x.fewest(0, 1), 3);
        due(18, "not all can sit", x.fewest(0, 2), -1);
        SchoolDoors y = with(learners + "size 3 4;", "even 0 0 1;even 0 1 1;", "even 1 0 1;");
        due(18, "too few for LEAST", y.fewest(0, 0), -1);
        due(18, "does not go", y.fewest(0, 1), -1);
        due(18, "no such plan", y.fewest(0, 2), -1);
        due(18, "no such school", y.fewest(1, 0), -1);
        SchoolDoors z = with("teacher 1 1;", "even 0 0 1;");
        due(18, "nobody needs a class", z.fewest(0, 0), 0);
        SchoolDoors v = with("learner 1 3 9;learner 1 3 9;couple 0 1;size 1 1;teacher 3 0;", "even 0 0 1;even 0 1 1;even 0 1 1;");
        due(18, "partners or not", v.fewest(0, 0), 3);
    }

    private static void promises19And20() {
        SchoolDoors x = with("above 0 40 1;below 1 10 1;above 1 20 1;learner 5 1 9;learner 5 1 9;learner 5 1 1;learner 11 1 9;"
                + "learner 5 1 9;learner 5 2 9;teacher 1 0;perhaps 0 30;perhaps 1 50;perhaps 2 50;perhaps 3 50;perhaps 4 50;fee 5;"
                + "tell 50;", "even 0 0 5;pairs 0 0 6;sits 0 1;even 0 1 5;", "even 0 0 11;", "even 1 0 0;");
        due(19, "70 * 40 + 30 * 40 less 70 * 40 + 30 * 10", x.test(0, 0, 0), 900);
        due(19, "50 * 40 + 50 * 40 less 50 * 20 + 50 * 40", x.test(0, 0, 1), 1000);
        due(19, "can sit nowhere", x.test(0, 0, 2), -1);
        due(19, "too far", x.test(0, 0, 3), 0);
        due(19, "12 is beside 11, one class", x.test(0, 1, 3), 0);
        due(19, "without a chance", x.test(0, 0, 5), 0);
        due(20, "of several the least", x.whom(0, 0), 1);
        due(20, "none", x.whom(0, 1), -1);
        due(19, "does not go", x.test(0, 2, 0), -1);
        due(20, "does not go", x.whom(0, 2), -1);
        due(19, "no such learner", x.test(0, 0, 6), -1);
        due(19, "no such learner", x.test(0, 0, -1), -1);
        due(19, "no such plan", x.test(0, 3, 0), -1);
        due(20, "no such school", x.whom(1, 0), -1);
        SchoolDoors y = with("above 0 40 1;below 1 30 1;below 2 50 1;learner 11 1 9;perhaps 0 10;teacher 1 0;",
                "even 0 0 11;even 0 0 10;");
        due(20, "above 0", y.whom(0, 0), 0);
        SchoolDoors z = with("above 0 10 1;above 2 1 1;learner 5 1 9;perhaps 0 1;teacher 1 0;", "even 0 0 5;even 0 0 8;");
        due(19, "1", z.test(0, 0, 0), 1);
        due(20, "1 is above 0", z.whom(0, 0), 0);
        due(19, "of 11: 12", y.test(0, 0, 0), 90 * 40 + 10 * 50 - (90 * 40 + 10 * 30));
    }

    private static void promise21() {
        SchoolDoors x = with("above 0 40 1;above 1 60 1;learner 5 3 9;learner 5 3 9;learner 5 3 9;learner 5 3 1;learner 5 1 9;"
                + "fee 5;size 2 3;teacher 3 0;", "even 0 0 5;sits 0 1 2 4;even 0 1 6;even 0 1 6;", "even 0 0 5;sits 0 1;even 0 1 6;",
                "even 0 0 5;sits 0;even 0 1 6;sits 1 2;even 0 0 5;sits 1;");
        due(21, "the least learner", x.move(0, 0, 0), 0);
        due(21, "the least class", x.move(0, 0, 1), 1);
        due(21, "grows", x.move(0, 0, 2), 20);
        due(21, "fewer than LEAST would stay", x.move(0, 1, 0), -1);
        due(21, "none may stay", x.move(0, 2, 0), 0);
        due(21, "where", x.move(0, 2, 1), 1);
        due(21, "another what", x.move(0, 0, 3), -1);
        due(21, "another what", x.move(0, 0, -1), -1);
        due(21, "no such plan", x.move(0, 3, 0), -1);
        due(21, "no such school", x.move(1, 0, 0), -1);
        x.sit(2, 1, 4, true);
        due(21, "full", x.move(0, 2, 0), -1);
        x.sit(2, 0, 9, true);
        due(21, "does not go", x.move(0, 2, 0), -1);
    }

    private static void promise22() {
        SchoolDoors x = with("above 0 40 1;above 1 60 1;learner 5 3 9;learner 5 3 9;learner 5 2 9;learner 5 1 9;fee 5;size 1 2;"
                + "crowd 1 20;teacher 3 0;teacher 3 0;", "even 0 0 5;sits 0 1 2;even 1 0 5;sits 3;even 1 1 6;sits 0;");
        due(22, "1 and 2 move: one goes to class 1, the other to class 2",
                x.ill(0, 0, 0), 2 * 32 + 2 * 48);
        due(22, "the other one: 3 does not come above MOST, 0 sits elsewhere", x.ill(0, 0, 1), 3 * 24);
        due(22, "no such teacher", x.ill(0, 0, 2), -1);
        due(22, "no such teacher", x.ill(0, 0, -1), -1);
        due(22, "no such plan", x.ill(0, 1, 0), -1);
        due(22, "no such school", x.ill(1, 0, 0), -1);
        StringBuilder seven = new StringBuilder("teacher 1 1;teacher 1 1;above 0 10 1;");
        for (int i = 0; i < 7; i++) {
            seven.append("learner 1 1 1;");
        }
        SchoolDoors y = with(seven.toString(), "even 0 0 1;sits 0 1 2 3 4 5 6;even 1 0 1;", "even 2 0 0;");
        due(22, "seven are too many", y.ill(0, 0, 0), -1);
        due(22, "nobody moves", y.ill(0, 0, 1), 70);
        y.sit(0, 1, 3, true);
        due(22, "six are not", y.ill(0, 0, 0), 70);
        due(22, "does not go", y.ill(0, 1, 0), -1);
    }

    private static void promise23() {
        SchoolDoors x = with("learner 1 1 30;learner 1 1 60;learner 1 1 20;");
        due(23, "fills", x.fills(0, false), 20);
        due(23, "pays: 20 * 3, 30 * 2 and 60 * 1", x.fills(0, true), 20);
        SchoolDoors y = with("learner 1 1 0;learner 1 1 0;");
        due(23, "fills", y.fills(0, false), 0);
        due(23, "pays", y.fills(0, true), 0);
        SchoolDoors v = with("learner 1 1 1;learner 1 1 0;");
        due(23, "1 pays more than 0", v.fills(0, true), 1);
        SchoolDoors z = with("");
        due(23, "no learners", z.fills(0, false), -1);
        due(23, "no learners", z.fills(0, true), -1);
        due(23, "no such school", z.fills(1, false), -1);
        due(23, "no such school", z.fills(-1, true), -1);
    }

    private static void promises24And25And43() {
        String text = "above 0 25 1;above 1 20 1;below 1 15 1;learner 5 1 1;learner 5 1 1;learner 11 1 1;learner 3 1 1;rise 25;"
                + "teacher 1 0;couple 0 1;perhaps 2 9;";
        SchoolDoors x = with(text, "even 0 0 5;sits 0;even 0 0 6;sits 1;even 0 0 11;sits 2;", "even 1 0 0;");
        due(43, "pass", x.pass(0, 0), 1);
        due(25, "first year", x.ladder(0, 0, 1), 25 + 20 + 25);
        due(25, "second year", x.ladder(0, 0, 2), 15 + 20 + 25);
        due(25, "12th year", x.ladder(0, 0, 12), 15 + 20 + 25);
        due(25, "another n", x.ladder(0, 0, 0), -1);
        due(25, "another n", x.ladder(0, 0, 13), -1);
        due(25, "does not go", x.ladder(0, 1, 1), -1);
        due(25, "no such plan", x.ladder(0, 2, 1), -1);
        due(43, "does not go", x.pass(0, 1), -1);
        due(43, "no such school", x.pass(1, 0), -1);
        x.sit(0, 0, 1, true);
        due(43, "in all classes together", x.pass(0, 0), 3);
        due(24, "does not go", x.next(0, 1, -1), -1);
        due(24, "no such place", x.next(0, 0, 1), -1);
        due(24, "no such place", x.next(0, 0, -2), -1);
        due(24, "no such plan", x.next(0, 2, -1), -1);
        due(24, "no such school", x.next(1, 0, -1), -1);
        due(24, "a further one", x.next(0, 0, -1), 1);
        int[] steps = {6, 6, 11, 3};
        for (int i = 0; i < 4; i++) {
            due(24, "step of " + i, x.learner(1, i, 0), steps[i]);
        }
        due(24, "the same else", x.learner(1, 0, 3) * 10 + x.learner(1, 2, 4), 19);
        due(24, "the school itself stays", x.learner(0, 0, 0), 5);
        due(24, "in its own place", x.next(0, 0, 0), 0);
        due(24, "there it is", x.learner(0, 0, 0), 6);
        due(24, "a third one", x.next(1, 0, -1), 2);
        due(24, "there are 3", x.next(1, 0, -1), -1);
        due(24, "in a place", x.next(1, 0, 2), 2);
        SchoolDoors y = with("learner 5 1 1;rise 0;", "");
        due(43, "RISE 0: all", y.pass(0, 0), 1);
    }

    private static void promise26() {
        SchoolDoors x = with("learner 5 1 1;learner 6 1 1;learner 7 1 1;learner 8 1 1;learner 2 1 1;couple 1 2;tell 10;teacher 1 0;",
                "even 0 0 0;sits 0 1 2 3;even 0 0 0;sits 0 1 4;even 0 0 0;sits 0 4;even 0 0 0;", "even 1 0 0;");
        due(26, "partners one apart count three", x.beside(0, 0, 0, -1), 30);
        int[] row = {3, 2, 1, 0};
        for (int i = 0; i < 4; i++) {
            due(26, "neighbour of " + i, x.beside(0, 0, 0, i), row[i]);
        }
        due(26, "0 and 1", x.beside(0, 0, 1, -1), 10);
        due(26, "4 alone", x.beside(0, 0, 1, 4), -1);
        due(26, "nothing told, together all the same", x.beside(0, 0, 2, 4), 0);
        due(26, "nobody", x.beside(0, 0, 3, -1), 0);
        due(26, "does not sit there", x.beside(0, 0, 1, 2), -2);
        due(26, "no such learner", x.beside(0, 0, 1, 5), -2);
        due(26, "no such learner", x.beside(0, 0, 1, -2), -2);
        due(26, "no such class", x.beside(0, 0, 4, -1), -2);
        due(26, "does not go", x.beside(0, 1, 0, -1), -2);
        due(26, "no such plan", x.beside(0, 2, 0, -1), -2);
        due(26, "no such school", x.beside(1, 0, 0, -1), -2);
        StringBuilder many = new StringBuilder("tell 1;teacher 1 1;");
        StringBuilder sits = new StringBuilder("even 0 0 1;sits");
        for (int i = 0; i < 13; i++) {
            many.append("learner ").append(i % 2).append(" 1 1;");
            sits.append(' ').append(i);
        }
        SchoolDoors y = with(many.toString(), sits.append(';').toString());
        due(26, "13", y.beside(0, 0, 0, -1), -2);
        y.sit(0, 0, 12, false);
        due(26, "12", y.beside(0, 0, 0, -1), 6);
        due(26, "the least neighbours", y.beside(0, 0, 0, 3), 2);
    }

    private static void promises27And28And39() {
        String text = "learner 5 1 1;learner 5 1 1;learner 9 1 1;teacher 1 0;above 0 1 100;above 1 1 0;size 2 9;weeks 4;";
        SchoolDoors x = with(text, "even 0 0 5;sits 0 1 2;two 0 0 6 5;sits 0 1;even 0 0 5;sits 0;even 0 0 5;", "even 1 0 0;");
        due(27, "behind none", x.weeks(0, 0, 1, 0, -1), 6);
        due(27, "behind none", x.weeks(0, 0, 1, 0, 2), 1);
        due(27, "beyond the table one goes", x.weeks(0, 0, 1, 1, 0), 2);
        due(27, "STAY 0, by the first step", x.weeks(0, 0, 1, 1, 1), 0);
        due(27, "fewer than LEAST", x.weeks(0, 0, 1, 1, 2), 0);
        due(27, "in all", x.weeks(0, 0, 1, 4, -1), 2);
        due(27, "more than WEEKS", x.weeks(0, 0, 1, 5, -1), -1);
        due(27, "below 0", x.weeks(0, 0, 1, -1, -1), -1);
        due(27, "no such class", x.weeks(0, 0, 1, 1, 4), -1);
        due(27, "no such class", x.weeks(0, 0, 1, 1, -2), -1);
        due(27, "does not go", x.weeks(0, 1, 1, 1, -1), -1);
        due(27, "no such school", x.weeks(1, 0, 1, 1, -1), -1);
        due(28, "it did not", x.ended(0, 0, 1, 0), -1);
        due(28, "behind the first", x.ended(0, 0, 1, 1), 1);
        due(28, "nobody from the first on", x.ended(0, 0, 1, 3), 1);
        due(28, "no such class", x.ended(0, 0, 1, 4), -1);
        due(28, "no such class", x.ended(0, 0, 1, -1), -1);
        due(28, "does not go", x.ended(0, 1, 1, 0), -1);
        due(39, "always", x.holds(0, 0, Integer.MAX_VALUE, 8, 0), 8);
        due(39, "never", x.holds(0, 0, 1, 8, 1), 0);
        due(39, "another w", x.holds(0, 0, 1, 0, 0), -1);
        due(39, "another w", x.holds(0, 0, 1, 9, 0), -1);
        due(39, "no such class", x.holds(0, 0, 1, 1, -1), -1);
        due(39, "does not go", x.holds(0, 1, 1, 1, 0), -1);
        due(39, "no such plan", x.holds(0, 2, 1, 1, 0), -1);
        bySeed();
    }

    /** One learner, STAY 50: he goes with the first number of 50 at least. */
    private static void bySeed() {
        SchoolDoors x = with("learner 5 1 1;teacher 1 0;above 0 1 50;weeks 30;", "even 0 0 5;sits 0;");
        int held = 0;
        for (int seed = -3; seed < 5; seed++) {
            int number = seed;
            int week = 0;
            boolean there = true;
            while (there && week < 30) {
                number = number * 1103515245 + 12345;
                week++;
                there = (number >>> 16) % 100 < 50;
            }
            due(28, "seed " + seed, x.ended(0, 0, seed, 0), there ? -1 : week);
            due(27, "ahead of it", x.weeks(0, 0, seed, week - 1, 0), 1);
            due(27, "behind it", x.weeks(0, 0, seed, week, -1), there ? 1 : 0);
            held += there ? 1 : 0;
        }
        due(39, "eight seeds", x.holds(0, 0, -3, 8, 0), held);
        SchoolDoors y = with("learner 5 1 1;teacher 1 0;weeks 1;", "even 0 0 9;sits 0;even 0 0 1;sits 0;");
        for (int seed = 0; seed < 400; seed += 8) {
            due(39, "beyond the table nobody stays", y.holds(0, 0, seed, 8, 0) + y.holds(0, 0, seed, 8, 1), 0);
        }
    }

    private static void promises29To32() {
        SchoolDoors x = with("above 0 40 1;above 1 60 1;below 1 10 1;learner 5 1 1;learner 6 3 1;learner 8 1 1;learner 9 2 1;learner 6 1 1;"
                + "teacher 1 1;teacher 1 0;size 1 2;rooms 1;crowd 2 10;tell 5;", "pairs 0 0 6;sits 0;even 0 0 0;sits 0 1;"
                + "two 0 0 0 11;sits 0;even 0 0 0;broad 0 0 0;sits 0 1;", "even 2 0 0;");
        due(29, "four less 2 * 1", x.lacks(0, 0), 2);
        due(29, "two, no teacher", x.lacks(0, 1), 2);
        due(29, "none", x.lacks(0, 5), 0);
        due(29, "no such evening", x.lacks(0, 6), -1);
        due(29, "no such evening", x.lacks(0, -1), -1);
        due(29, "no such school", x.lacks(1, 0), -1);
        due(30, "pairs: 40 + 5, and 5 for him", x.more(0, 0, 0, 6), 50);
        due(30, "of STEP 5", x.more(0, 0, 0, 5), 60);
        due(30, "far off", x.more(0, 0, 0, 11), 0);
        due(30, "40 of 3, EASY being 2", x.more(0, 0, 1, 0), 36);
        x.sit(0, 1, 4, true);
        due(30, "no such class", x.more(0, 0, 5, 0), NO_SUM);
        due(30, "no such class", x.more(0, 0, -1, 0), NO_SUM);
        due(30, "no such STEP", x.more(0, 0, 0, 12), NO_SUM);
        due(30, "no such STEP", x.more(0, 0, 0, -1), NO_SUM);
        due(30, "does not go", x.more(0, 1, 0, 0), NO_SUM);
        due(30, "no such plan", x.more(0, 2, 0, 0), NO_SUM);
        due(31, "2 and 3 have no common evening", x.lonely(0), 4 + 8);
        due(31, "no such school", x.lonely(1), -1);
        due(31, "no such school", x.lonely(-1), -1);
        due(32, "alone: one above", x.shift(0, 0, 0), 6);
        due(32, "5, 6, 6 (of 3): 7 two of 54, 6 54 and two of 36", x.shift(0, 0, 1), 6);
        due(32, "two: the first one alone", x.shift(0, 0, 2), 6);
        due(32, "nobody", x.shift(0, 0, 3), 0);
        due(32, "broad", x.shift(0, 0, 4), 7);
        due(32, "no such class", x.shift(0, 0, 5), -1);
        due(32, "does not go", x.shift(0, 1, 0), -1);
        due(32, "no such school", x.shift(1, 0, 0), -1);
        SchoolDoors y = with("above 0 50 1;learner 1 1 1;learner 1 1 1;teacher 1 1;crowd 1 20;", "even 0 0 1;sits 0;"
                + "even 0 0 1;sits 0 1;");
        due(30, "80 less 50", y.more(0, 0, 0, 1), 30);
        due(30, "it falls", y.more(0, 0, 0, 5), -10);
        StringBuilder all = new StringBuilder("above 0 50 1;teacher 1 1;");
        for (int i = 0; i < 16; i++) {
            all.append("learner 1 1 1;");
        }
        SchoolDoors z = with(all.toString(), "even 0 0 1;sits 0 1 2 3 4 5 6 7 8 9 10 11 12 13 14 15;");
        due(30, "a 17th", z.more(0, 0, 0, 1), 17 * 50 - 16 * 50);
    }

    private static void promise33() {
        String text = "above 0 20 1;above 1 50 1;learner 5 1 1;teacher 1 0;rise 50;";
        SchoolDoors x = with(text, "even 0 0 6;sits 0;", "even 0 0 7;sits 0;", "even 1 0 0;");
        due(33, "50 and 50 against 0 and 50", x.order(0, 0, 1), 0);
        due(33, "the other way", x.order(0, 1, 0), 1);
        due(33, "alike", x.order(0, 1, 1), 2);
        due(33, "one does not go", x.order(0, 0, 2), -1);
        due(33, "the other does not go", x.order(0, 2, 0), -1);
        due(33, "no such plan", x.order(0, 0, 3), -1);
        due(33, "no such plan", x.order(0, -1, 0), -1);
        due(33, "no such school", x.order(1, 0, 1), -1);
        due(33, "no steps change", x.learner(0, 0, 0), 5);
    }

    private static void promise34() {
        SchoolDoors x = with("above 0 20 1;learner 5 3 9;learner 5 1 9;learner 5 3 1;learner 9 1 9;teacher 3 0;crowd 1 20;size 1 2;"
                + "fee 5;", "even 0 0 5;sits 1;even 0 1 5;even 0 1 5;", "even 0 0 5;sits 1;even 0 0 5;sits 0 1;", "even 1 0 0;");
        due(34, "where it grows most, the least", x.let(0, 0, 0), 1);
        due(34, "sits somewhere", x.let(0, 0, 1), -1);
        due(34, "can't pay", x.let(0, 0, 2), -1);
        due(34, "falls least; the other one is full", x.let(0, 1, 3), 0);
        due(34, "does not go", x.let(0, 2, 0), -1);
        due(34, "no such learner", x.let(0, 0, 4), -1);
        due(34, "no such learner", x.let(0, 0, -1), -1);
        due(34, "no such plan", x.let(0, 3, 0), -1);
        due(34, "no such school", x.let(1, 0, 0), -1);
    }

    private static void promise35() {
        SchoolDoors x = with("above 0 50 1;above 1 50 1;above 2 50 1;below 1 30 1;learner 3 1 1;learner 4 1 1;learner 11 1 1;teacher 1 0;"
                + "tell 20;rise 50;", "even 0 0 5;sits 0;pairs 0 0 5;sits 0 1;even 0 0 11;", "even 1 0 0;");
        due(35, "behind none", x.june(0, 0, 0, 0, 0), 3);
        due(35, "behind 1", x.june(0, 0, 0, 0, 1), 4);
        due(35, "behind 12", x.june(0, 0, 0, 0, 12), 6);
        due(35, "pairs: none beside 6", x.june(0, 0, 1, 0, 12), 6);
        due(35, "pairs: he himself is none", x.june(0, 0, 1, 1, 12), 6);
        due(35, "11 at most", x.june(0, 0, 2, 2, 3), 11);
        due(35, "another n", x.june(0, 0, 0, 0, 13), -1);
        due(35, "another n", x.june(0, 0, 0, 0, -1), -1);
        due(35, "no such learner", x.june(0, 0, 0, 3, 0), -1);
        due(35, "no such learner", x.june(0, 0, 0, -1, 0), -1);
        due(35, "no such class", x.june(0, 0, 3, 0, 0), -1);
        due(35, "does not go", x.june(0, 1, 0, 0, 0), -1);
        due(35, "no such plan", x.june(0, 2, 0, 0, 0), -1);
        due(35, "no such school", x.june(1, 0, 0, 0, 0), -1);
        SchoolDoors y = with("above 0 50 1;learner 3 1 1;learner 3 1 1;teacher 1 0;rise 41;crowd 1 20;", "even 0 0 3;sits 0;");
        due(35, "sitting there with those who do", y.june(0, 0, 0, 1, 1), 3);
        due(35, "he sits there once", y.june(0, 0, 0, 0, 1), 4);
    }

    private static void promise36() {
        String text = "above 0 20 1;above 1 50 1;learner 5 1 1;learner 5 1 1;learner 5 1 1;teacher 3 0;teacher 3 0;size 1 2;crowd 1 20;";
        SchoolDoors x = with(text, "even 0 0 5;sits 0;even 0 1 6;sits 1;even 1 0 5;sits 0 2;even 1 1 5;sits 1;", "even 0 0 5;sits 0 1;"
                + "even 1 0 5;sits 2;", "even 2 0 0;");
        due(36, "of two by which 20 is lost the least first one", x.merge(0, 0, 0), 0);
        due(36, "its second one", x.merge(0, 0, 1), 2);
        due(36, "20 is lost", x.merge(0, 0, 2), -20);
        x.sit(0, 2, 0, false);
        due(36, "28 would be lost there", x.merge(0, 0, 0) * 10 + x.merge(0, 0, 1), 2);
        due(36, "40 less 32", x.merge(0, 0, 2), -8);
        due(36, "above MOST", x.merge(0, 1, 0), NO_SUM);
        due(36, "does not go", x.merge(0, 2, 0), NO_SUM);
        due(36, "another what", x.merge(0, 0, 3), NO_SUM);
        due(36, "another what", x.merge(0, 0, -1), NO_SUM);
        due(36, "no such plan", x.merge(0, 3, 0), NO_SUM);
        due(36, "no such school", x.merge(1, 0, 0), NO_SUM);
    }

    private static void promise37() {
        SchoolDoors x = with("above 0 20 1;above 1 50 1;below 1 0 1;learner 5 7 9;learner 5 6 9;learner 5 14 9;learner 5 8 1;learner 6 8 9;"
                + "learner 5 8 9;teacher 7 0;teacher 2 0;rooms 2;size 2 9;fee 5;", "", "even 0 1 5;", "even 0 1 5;even 1 1 5;sits 1;");
        due(37, "evening 1 has three", x.open(0, 0, 5), 1);
        due(37, "the other teacher has it", x.open(0, 1, 5), 1);
        due(37, "nobody has: evening 2 has two", x.open(0, 2, 5), 2);
        due(37, "BASE 0", x.open(0, 0, 8), -1);
        due(37, "another step", x.open(0, 0, 12), -1);
        due(37, "another step", x.open(0, 0, -1), -1);
        due(37, "no such plan", x.open(0, 3, 5), -1);
        due(37, "no such school", x.open(1, 0, 5), -1);
        x.sit(0, 0, 0, true);
        x.sit(1, 0, 15, true);
        due(37, "does not go", x.open(0, 1, 5), -1);
        SchoolDoors y = with("above 0 20 1;learner 5 1 9;teacher 1 0;teacher 1 0;rooms 1;", "even 0 0 5;", "");
        due(37, "no room", y.open(0, 0, 5), -1);
        due(37, "a room", y.open(0, 1, 5), 0);
        SchoolDoors z = with("above 1 20 1;below 1 20 1;learner 0 1 9;learner 11 1 9;teacher 1 0;", "");
        due(37, "11 is a step", z.open(0, 0, 10), 0);
        due(37, "12 is none", z.open(0, 0, 12), -1);
        due(37, "-1 is none", z.open(0, 0, -1), -1);
    }

    private static void promise38() {
        SchoolDoors x = with("learner 1 1 0;learner 1 1 500;learner 1 1 999;");
        due(38, "0", x.off(0, 0), 0);
        due(38, "500", x.off(0, 500), 1);
        due(38, "501", x.off(0, 501), 3);
        due(38, "999", x.off(0, 999), 3);
        due(38, "another fee", x.off(0, 1000), -1);
        due(38, "another fee", x.off(0, -1), -1);
        due(38, "no such school", x.off(1, 0), -1);
        due(38, "no such school", x.off(-1, 0), -1);
    }

    private static void promises40To42() {
        SchoolDoors x = with("learner 3 1 1;learner 11 1 1;learner 0 1 1;teacher 5 0;teacher 1 0;fee 40;cost 999;", "even 0 0 0;sits 0 1;"
                + "even 0 2 0;sits 0;even 0 0 0;sits 1 2;even 0 1 0;", "", "even 2 0 0;");
        due(40, "8", x.spread(0, 0, 0), 8);
        due(40, "one", x.spread(0, 0, 1), 0);
        due(40, "11", x.spread(0, 0, 2), 11);
        due(40, "nobody", x.spread(0, 0, 3), -1);
        due(40, "no such class", x.spread(0, 0, 4), -1);
        due(40, "no such class", x.spread(0, 0, -1), -1);
        due(40, "does not go", x.spread(0, 2, 0), -1);
        due(40, "no such school", x.spread(1, 0, 0), -1);
        due(41, "200 by 4 and one", x.toll(0, 0), 51);
        due(41, "without classes", x.toll(0, 1), 1000);
        due(41, "does not go", x.toll(0, 2), -1);
        due(41, "no such plan", x.toll(0, 3), -1);
        due(41, "no such school", x.toll(1, 0), -1);
        due(42, "0 and 2; 1 is not his", x.busy(0, 0, 0), 2);
        due(42, "none", x.busy(0, 0, 1), 0);
        due(42, "no such teacher", x.busy(0, 0, 2), -1);
        due(42, "no such teacher", x.busy(0, 0, -1), -1);
        due(42, "does not go", x.busy(0, 2, 0), -1);
        due(42, "no such school", x.busy(1, 0, 0), -1);
        SchoolDoors y = with("learner 1 1 1;learner 1 1 1;teacher 1 0;fee 999;", "even 0 0 0;sits 0 1;", "even 0 0 0;");
        due(41, "1000 at most", y.toll(0, 0), 1000);
        due(41, "nobody pays", y.toll(0, 1), 1);
    }

    private static void promise44() {
        SchoolDoors x = with("", "", "");
        due(44, "schools", x.count(0), 1);
        due(44, "plans", x.count(1), 2);
        due(44, "another what", x.count(2), -2);
        due(44, "another what", x.count(-1), -2);
    }

    private static void promises45And46() {
        SchoolDoors x = with("learner 5 1 1;fee 7;teacher 1 1;", "even 0 0 1;");
        school(x, "rooms 10;");
        feed(x, "fee 8;");
        due(45, "image", x.image(0), true);
        due(45, "no such image", x.image(3), false);
        due(45, "no such image", x.image(-1), false);
        due(46, "not made", x.again(1), false);
        x.sit(0, 0, 0, true);
        due(45, "another image", x.image(2), true);
        due(45, "the tape is still there", x.text(0, 0), 0);
        plan(x, "even 0 0 0;");
        due(46, "again", x.again(0), true);
        due(46, "who sits", x.plan(0, 0, 5), 0);
        due(46, "plans", x.count(1), 1);
        due(46, "fee", x.about(0, 8), 7);
        due(46, "fault", x.fault(0) * 10 + x.fault(1), 26);
        due(46, "tape", x.end(6), 6);
        due(46, "its bytes", x.text(0, 0), 0);
        due(46, "its fee", x.about(0, 8), 8);
        due(46, "an image is not the thing itself", x.again(0) ? x.about(0, 8) : -1, 7);
        due(46, "the other image stays", x.again(2) ? x.plan(0, 0, 5) : -1, 1);
        due(46, "none such", x.again(-1), false);
        due(46, "none such", x.again(3), false);
        due(45, "an image in the place of another", x.image(0), true);
        x.sit(0, 0, 0, false);
        due(46, "it is that then", x.again(0) ? x.plan(0, 0, 5) : -1, 1);
    }

    public static void main(String[] args) {
        promise1();
        promise2();
        promise3();
        promise4();
        promise5();
        promise6();
        promise7();
        promise8();
        promise9();
        promise10();
        promise11();
        promise12();
        promise13();
        promises14And15();
        promise16();
        promise17();
        promise18();
        promises19And20();
        promise21();
        promise22();
        promise23();
        promises24And25And43();
        promise26();
        promises27And28And39();
        promises29To32();
        promise33();
        promise34();
        promise35();
        promise36();
        promise37();
        promise38();
        promises40To42();
        promise44();
        promises45And46();
        System.out.println(checks + " checks, " + wrong + " answers are not as due");
        if (wrong != 0) {
            System.exit(1);
        }
    }
}
