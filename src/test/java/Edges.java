/** What the tests of edges have in common: texts, what is told, and what is due. */
class Edges {
    static final int NO_SUM = -1000000;
    static final int MIN = Integer.MIN_VALUE;
    static final int MAX = Integer.MAX_VALUE;
    /** All seven differ, so that each tells how far a step lies from a STEP. */
    static final String TABLE = "above 0 40 90;above 1 61 80;above 2 30 70;above 3 9 60;"
            + "below 1 20 50;below 2 10 40;below 3 5 30;";
    private static int wrong = 0;
    private static int checks = 0;

    interface Ask {
        int of(SchoolDoors x);
    }

    static void due(String sentence, long got, long want) {
        checks++;
        if (got != want) {
            wrong++;
            System.out.println(sentence + ": answered " + got + ", due is " + want);
        }
    }

    static void due(String sentence, boolean got, boolean want) {
        due(sentence, got ? 1 : 0, want ? 1 : 0);
    }

    // ---- texts

    static void feed(SchoolDoors x, String text) {
        byte[] bytes = new byte[(text.length() + 19) / 20 * 20];
        for (int i = 0; i < text.length(); i++) {
            bytes[i] = (byte) text.charAt(i);
        }
        int[] n = new int[5];
        x.end(0);
        for (int at = 0; at < bytes.length; at += 20) {
            for (int i = 0; i < 5; i++) {
                n[i] = 0;
                for (int j = 0; j < 4; j++) {
                    n[i] = n[i] << 8 | bytes[at + 4 * i + j] & 255;
                }
            }
            x.feed(n[0], n[1], n[2], n[3], n[4]);
        }
        x.end(text.length());
    }

    static int text(SchoolDoors x, int sort, int at, String text) {
        feed(x, text);
        return x.text(sort, at);
    }

    static SchoolDoors with(String school, String... plans) {
        SchoolDoors x = new SchoolDoors();
        due("school " + school, text(x, 0, -1, school), 0);
        for (int i = 0; i < plans.length; i++) {
            due("plan " + plans[i], text(x, 1, -1, plans[i]), i);
        }
        return x;
    }

    static void fault(int sort, String text, int fault, int place) {
        SchoolDoors x = new SchoolDoors();
        String told = "text " + text.replace("\n", "\\n");
        due(told, text(x, sort, -1, text), fault == 0 ? 0 : -1);
        due("FAULT of " + told, x.fault(0), fault);
        due("its place in " + told, x.fault(1), place);
        due("how many by " + told, x.count(sort), fault == 0 ? 1 : 0);
        due("none of the other sort by " + told, x.count(1 - sort), 0);
    }

    static String times(int n, String text) {
        return text.repeat(n);
    }

    static String blanks(int n) {
        return times(n, " ");
    }

    /** The same learner n times. */
    static String learners(int n) {
        return times(n, "learner 5 1 9;");
    }

    static String sits(int from, int to) {
        StringBuilder s = new StringBuilder("sits");
        for (int i = from; i <= to; i++) {
            s.append(' ').append(i);
        }
        return s.append(';').toString();
    }

    /** The tape's length, asked for without a change: further bytes are taken off again. */
    static int tape(SchoolDoors x) {
        int n = x.feed(0, 0, 0, 0, 0);
        if (n != -1) {
            return x.end(n - 20);
        }
        for (n = 600; n > 580; n--) {
            if (x.end(n) == n) {
                return n;
            }
        }
        return -1;
    }

    static String toldOfSchool(SchoolDoors x, int school) {
        StringBuilder s = new StringBuilder("school");
        for (int what = 0; what < 57; what++) {
            boolean asks = what < 13 || what % 10 < 5 && what >= 20 || what % 10 < 7 && what >= 40;
            s.append(asks ? " " + x.about(school, what) : "");
        }
        for (int l = 0; l < x.about(school, 0); l++) {
            s.append(" /");
            for (int what = 0; what < 5; what++) {
                s.append(' ').append(x.learner(school, l, what));
            }
        }
        return s.toString();
    }

    static String toldOfPlan(SchoolDoors x, int plan) {
        StringBuilder s = new StringBuilder("plan");
        for (int k = 0; k < x.plan(plan, -1, 0); k++) {
            s.append(" /");
            for (int what = 0; what < 6; what++) {
                s.append(' ').append(x.plan(plan, k, what));
            }
        }
        return s.toString();
    }

    /** All SCHOOLS and PLANS, as far as they can be asked for. */
    static String told(SchoolDoors x) {
        StringBuilder s = new StringBuilder();
        for (int i = 0; i < x.count(0); i++) {
            s.append(toldOfSchool(x, i)).append("; ");
        }
        for (int i = 0; i < x.count(1); i++) {
            s.append(toldOfPlan(x, i)).append("; ");
        }
        return s.toString();
    }

    static String state(SchoolDoors x) {
        return x.fault(0) + " " + x.fault(1) + " " + tape(x) + " " + told(x);
    }

    static void end() {
        System.out.println(checks + " boundaries, " + wrong + " answers are not as due");
        if (wrong != 0) {
            System.exit(1);
        }
    }
}
