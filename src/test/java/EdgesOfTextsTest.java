/** The boundaries of texts: each NUMBER, byte, TOKEN, line and FAULT; promises 1 to 5 and 9. */
public final class EdgesOfTextsTest extends Edges {
    /** A NUMBER of a line, told between two pieces of text: its least and its most, and one beyond each. */
    private static void number(int sort, String before, int least, int most, String after, Ask told) {
        for (int n : new int[] {least, most}) {
            SchoolDoors x = new SchoolDoors();
            String text = before + n + after;
            due("it can be: " + text, text(x, sort, -1, text), 0);
            due("it is so behind " + text, told.of(x), n);
        }
        if (least > 0) {
            fault(sort, before + (least - 1) + after, 2, before.length());
        }
        fault(sort, before + (most + 1) + after, most + 1 < 1000 ? 2 : 1, before.length());
        if (most < 999) {
            fault(sort, before + 999 + after, 2, before.length());
        }
    }

    private static int learntFor(SchoolDoors x, int sign) {
        for (int d = 0; d <= 3; d++) {
            if (x.about(0, 43 + sign * d) == 7 && x.about(0, 53 + sign * d) == 8) {
                return d;
            }
        }
        return -1;
    }

    private static void numbersOfSchools() {
        number(0, "learner ", 0, 11, " 1 1;", x -> x.learner(0, 0, 0));
        number(0, "learner 1 ", 1, 63, " 1;", x -> x.learner(0, 0, 1));
        number(0, "learner 1 1 ", 0, 999, ";", x -> x.learner(0, 0, 2));
        String two = "learner 1 1 1;learner 2 2 2;";
        number(0, two + "perhaps ", 0, 1, " 50;", x -> x.learner(0, 0, 4) == 50 ? 0 : x.learner(0, 1, 4) == 50 ? 1 : -1);
        number(0, two + "perhaps 1 ", 0, 100, ";", x -> x.learner(0, 1, 4));
        number(0, two + two + "couple 2 ", 3, 3, ";", x -> x.learner(0, 2, 3));
        number(0, two + two + "couple ", 0, 3, " 2;", x -> x.learner(0, 2, 3));
        number(0, "teacher ", 1, 63, " 1;", x -> x.about(0, 20));
        number(0, "teacher 1 ", 0, 3, ";", x -> x.about(0, 30));
        number(0, "above ", 0, 3, " 7 8;", x -> learntFor(x, 1));
        number(0, "above 1 ", 0, 99, " 5;", x -> x.about(0, 44));
        number(0, "above 1 5 ", 0, 100, ";", x -> x.about(0, 54));
        number(0, "below ", 1, 3, " 7 8;", x -> learntFor(x, -1));
        number(0, "below 1 ", 0, 99, " 5;", x -> x.about(0, 42));
        number(0, "below 1 5 ", 0, 100, ";", x -> x.about(0, 52));
        number(0, "crowd ", 1, 15, " 1;", x -> x.about(0, 2));
        number(0, "crowd 1 ", 0, 20, ";", x -> x.about(0, 3));
        number(0, "size ", 1, 15, " 15;", x -> x.about(0, 4));
        number(0, "size 1 ", 1, 15, ";", x -> x.about(0, 5));
        number(0, "size 7 ", 7, 15, ";", x -> x.about(0, 5));
        number(0, "size 15 ", 15, 15, ";", x -> x.about(0, 5));
        number(0, "rooms ", 1, 9, ";", x -> x.about(0, 6));
        number(0, "cost ", 0, 999, ";", x -> x.about(0, 7));
        number(0, "fee ", 0, 999, ";", x -> x.about(0, 8));
        number(0, "weeks ", 1, 30, ";", x -> x.about(0, 9));
        number(0, "rise ", 0, 99, ";", x -> x.about(0, 10));
        number(0, "tell ", 0, 99, ";", x -> x.about(0, 11));
        number(0, "long ", 0, 200, ";", x -> x.about(0, 12));
    }

    private static void numbersOfPlans() {
        String[] words = {"even ", "two ", "broad ", "long ", "pairs "};
        for (int kind = 0; kind < 5; kind++) {
            int sort = kind;
            String more = kind == 1 ? " 1;" : ";";
            number(1, words[kind], 0, 4, " 1 1" + more, x -> x.plan(0, 0, 0) == sort ? x.plan(0, 0, 1) : -1);
            number(1, words[kind] + "1 ", 0, 5, " 1" + more, x -> x.plan(0, 0, 2));
            number(1, words[kind] + "1 1 ", 0, 11, more, x -> x.plan(0, 0, 3));
        }
        number(1, "two 1 1 1 ", 0, 11, ";", x -> x.plan(0, 0, 4));
        number(1, "even 0 0 0;sits ", 0, 15, ";", x -> Integer.numberOfTrailingZeros(x.plan(0, 0, 5)));
        number(1, "even 0 0 0;sits 3 ", 0, 15, ";", x -> Integer.numberOfTrailingZeros(x.plan(0, 0, 5) & ~8));
        number(1, "even 0 0 0;sits ", 0, 15, " 3;", x -> Integer.numberOfTrailingZeros(x.plan(0, 0, 5) & ~8));
    }

    /** of couple also the second one, if it is the first; LEARNERS told ahead. */
    private static void couples() {
        String three = "learner 1 1 1;learner 1 1 1;learner 1 1 1;";
        fault(0, three + "couple 0 2;", 0, -1);
        fault(0, three + "couple 2 0;", 0, -1);
        fault(0, three + "couple 0 3;", 2, 51);
        fault(0, three + "couple 3 0;", 2, 49);
        fault(0, three + "couple 1 1;", 2, 51);
        fault(0, three + "couple 1 01;", 2, 51);
        fault(0, three + "couple 3 3;", 2, 49);
        fault(0, "couple 0 1;" + three, 2, 7);
        fault(0, "learner 1 1 1;couple 0 1;" + three, 2, 23);
        fault(0, "perhaps 0 5;" + three, 2, 8);
        fault(0, "learner 1 1 1;perhaps 1 5;" + three, 2, 22);
        SchoolDoors x = with(three + "learner 1 1 1;couple 0 1;couple 2 3;couple 3 0;");
        int[] partners = {3, -1, -1, 0};
        for (int i = 0; i < 4; i++) {
            due("PARTNERS that they had have none, of " + i, x.learner(0, i, 3), partners[i]);
        }
        SchoolDoors y = with(three + "couple 0 1;couple 1 2;");
        due("the first one's PARTNER has none", y.learner(0, 0, 3), -1);
        due("each the other's", y.learner(0, 1, 3) * 10 + y.learner(0, 2, 3), 21);
        SchoolDoors z = with(three + "couple 0 1;couple 2 1;");
        due("the second one's PARTNER has none", z.learner(0, 0, 3), -1);
        due("each the other's", z.learner(0, 1, 3) * 10 + z.learner(0, 2, 3), 21);
    }

    /** what is learnt (0 at first), STAY (100 at first), (15 at first), .. */
    private static void atFirst() {
        SchoolDoors x = with("");
        int[] first = {0, 0, 15, 0, 1, 15, 9, 0, 0, 10, 50, 0, 100};
        for (int what = 0; what < first.length; what++) {
            due("at first, what " + what, x.about(0, what), first[what]);
        }
        for (int d = -3; d <= 3; d++) {
            due("what is learnt, 0 at first", x.about(0, 43 + d), 0);
            due("STAY, 100 at first", x.about(0, 53 + d), 100);
        }
        SchoolDoors y = with("learner 1 1 1;");
        due("perhaps a PARTNER", y.learner(0, 0, 3), -1);
        due("perhaps a CHANCE", y.learner(0, 0, 4), 0);
        SchoolDoors z = with(TABLE + "learner 1 1 1;learner 1 1 1;couple 0 1;perhaps 0 7;teacher 9 3;crowd 2 3;size 4 5;"
                + "rooms 6;cost 7;fee 8;weeks 9;rise 10;tell 11;long 12;");
        due("another one in its place", text(z, 0, 0, "learner 2 2 2;"), 0);
        for (int what = 1; what < first.length; what++) {
            due("at first again, what " + what, z.about(0, what), first[what]);
        }
        for (int d = -3; d <= 3; d++) {
            due("what is learnt, 0 again", z.about(0, 43 + d), 0);
            due("STAY, 100 again", z.about(0, 53 + d), 100);
        }
        due("no PARTNER is left", z.learner(0, 0, 3), -1);
        due("no CHANCE is left", z.learner(0, 0, 4), 0);
        due("no teacher is left", z.about(0, 20), -1);
    }

    /** Later ones strike, but LEARNERS, TEACHERS, CLASSES, who SITS, which are further ones. */
    private static void laterOnes() {
        SchoolDoors x = with("crowd 2 3;crowd 4 0;size 2 3;size 1 9;rooms 5;rooms 6;cost 3;cost 0;fee 4;fee 0;weeks 2;weeks 3;"
                + "rise 9;rise 0;tell 9;tell 0;long 9;long 0;above 1 5 6;above 1 0 7;above 0 1 1;above 0 2 2;below 2 3 3;"
                + "below 2 4 0;learner 1 1 1;learner 2 2 2;perhaps 1 9;perhaps 1 0;teacher 1 1;teacher 2 2;");
        int[] want = {2, 2, 4, 0, 1, 9, 6, 0, 0, 3, 0, 0, 0};
        for (int what = 0; what < want.length; what++) {
            due("the later one, what " + what, x.about(0, what), want[what]);
        }
        due("learnt, 1 above", x.about(0, 44), 0);
        due("STAY, 1 above", x.about(0, 54), 7);
        due("learnt, none above", x.about(0, 43), 2);
        due("STAY, none above", x.about(0, 53), 2);
        due("learnt, 2 below", x.about(0, 41), 4);
        due("STAY, 2 below", x.about(0, 51), 0);
        due("the first LEARNER stays", x.learner(0, 0, 0) * 10 + x.learner(0, 1, 0), 12);
        due("the first TEACHER stays", x.about(0, 20) * 10 + x.about(0, 21), 12);
        due("the later CHANCE", x.learner(0, 1, 4), 0);
        text(x, 1, -1, "even 0 0 1;sits 0;sits 1 0 1;even 1 0 2;sits 15;two 1 1 1 0;");
        due("CLASSES are further ones", x.plan(0, -1, 0), 3);
        due("who SITS, too", x.plan(0, 0, 5), 3);
        due("of the latest CLASS", x.plan(0, 1, 5), 1 << 15);
        due("nobody in the third one", x.plan(0, 2, 5), 0);
        due("the second step may be 0", x.plan(0, 2, 4), 0);
        due("in its place", text(x, 1, 0, "even 0 0 1;"), 0);
        due("nobody is left there", x.plan(0, 0, 5), 0);
        due("no CLASS is left", x.plan(0, -1, 0), 1);
    }

    // ---- THE TAPE's bytes, TOKENS, lines

    private static void bytes() {
        for (int b = 0; b < 256; b++) {
            char c = (char) b;
            boolean blank = b == 10 || b == 32;
            boolean digit = b >= '0' && b <= '9';
            boolean letter = b >= 'a' && b <= 'z';
            boolean good = blank || digit;
            fault(0, "fee" + c + "7;", good ? 0 : 1, good ? -1 : letter ? 0 : 3);
            fault(0, c + "fee 7;", blank ? 0 : 1, blank ? -1 : 0);
            fault(0, "fee 7;" + c, blank ? 0 : 1, blank ? -1 : 6);
            fault(0, "fee 7" + c + "7;", digit ? 0 : 1, digit ? -1 : blank || c == ';' ? 6 : 5);
            fault(1, "even 0 0 0" + c, c == ';' ? 0 : 1, c == ';' ? -1 : good ? 11 : 10);
        }
    }

    /** TOKENS, as long as they go; NUMBERS, 1 to 3 digits; a longer row of digits is no token. */
    private static void tokens() {
        fault(0, "fee 7;", 0, -1);
        fault(0, "fee 07;", 0, -1);
        fault(0, "fee 007;", 0, -1);
        fault(0, "fee 0007;", 1, 4);
        fault(0, "fee 1000;", 1, 4);
        fault(0, "fee 4294967296;", 1, 4);
        fault(0, "fee " + times(590, "0") + ";", 1, 4);
        fault(0, "rooms 001;", 0, -1);
        fault(0, "rooms 000;", 2, 6);
        fault(0, "learner 1 1 0001;", 1, 12);
        fault(0, "0007", 1, 0);
        fault(0, "\n\n fee \n\n 7 \n;\n \n", 0, -1);
        fault(0, "fee7;fee8;learner1 1 1;", 0, -1);
        fault(0, "fee 7;fee 8", 1, 11);
        fault(0, "fee 7;fee 8 \n", 1, 13);
        fault(0, "fee 7;fee", 1, 9);
        fault(0, "fee 7;fee ", 1, 10);
        fault(0, "fee 7;fe", 1, 6);
        fault(0, "feefee 7;", 1, 0);
        fault(0, "fee 7;;", 1, 6);
        fault(0, ";", 1, 0);
        fault(0, "7;", 1, 0);
        fault(0, "fee fee;", 1, 4);
        fault(0, "", 0, -1);
        fault(1, "", 0, -1);
        fault(0, "\n", 0, -1);
        fault(1, " ", 0, -1);
    }

    private static final String[] SCHOOL_LINES = {"learner 1 1 1", "couple 0 1", "perhaps 0 1", "teacher 1 1", "above 1 1 1",
        "below 1 1 1", "crowd 1 1", "size 1 1", "rooms 1", "cost 1", "fee 1", "weeks 1", "rise 1", "tell 1", "long 1"};
    private static final String[] PLAN_LINES = {"even 0 0 0", "two 0 0 0 0", "broad 0 0 0", "long 0 0 0", "pairs 0 0 0"};

    /** 1 the first byte or token with which no text goes on. */
    private static void lines(int sort, String ahead, String line) {
        int at = ahead.length();
        int end = at + line.length();
        String word = line.substring(0, line.indexOf(' '));
        fault(sort, ahead + line + ";", 0, -1);
        fault(sort, ahead + line, 1, end);
        fault(sort, ahead + line + " 1;", 1, end + 1);
        fault(sort, ahead + line + " " + word, 1, end + 1);
        fault(sort, ahead + line.substring(0, line.lastIndexOf(' ')) + ";", 1, end - 2);
        fault(sort, ahead + word + ";", 1, at + word.length());
        fault(sort, ahead + word, 1, at + word.length());
        fault(sort, ahead + word.substring(1) + line.substring(word.length()) + ";", 1, at);
        fault(sort, ahead + word.substring(0, word.length() - 1) + line.substring(word.length()) + ";", 1, at);
        fault(sort, ahead + line.substring(0, word.length()) + "s" + line.substring(word.length()) + ";", 1, at);
        fault(sort, ahead + line + ";" + line, 1, at + 2 * line.length() + 1);
        if (!word.equals("long")) {
            fault(1 - sort, line + ";", 1, 0);
        }
    }

    private static void allLines() {
        for (String line : SCHOOL_LINES) {
            lines(0, "learner 1 1 1;learner 1 1 1;", line);
        }
        for (String line : PLAN_LINES) {
            lines(1, "even 0 0 0;\n", line);
        }
        fault(0, "long 0 0 0;", 1, 7);
        fault(1, "long 0;", 1, 6);
        fault(1, "even 0 0 0;sits;", 1, 15);
        fault(1, "even 0 0 0;sits 0;", 0, -1);
        fault(1, "even 0 0 0;sits 0", 1, 17);
        fault(1, "even 0 0 0;sits even 0 0 0;", 1, 16);
        fault(1, "even 0 0 0;sits 0 0001;", 1, 18);
        fault(1, "even 0 0 0;" + sits(0, 15), 0, -1);
        fault(1, "even 0 0 0;sits" + times(100, " 7") + ";", 0, -1);
        fault(0, "sits 0;", 1, 0);
        fault(1, "sit 0;", 1, 0);
    }

    // ---- FAULTS: which comes first

    private static void faults() {
        fault(0, "rooms 0;x", 1, 8);
        fault(0, learners(17) + "x", 1, 238);
        fault(1, "sits 0;x", 1, 7);
        fault(0, "rooms 0;rooms 1", 1, 15);
        fault(0, "rooms 0;rooms 10;", 2, 6);
        fault(0, "rooms 1;rooms 10;", 2, 14);
        fault(0, "learner 12 64 1;", 2, 8);
        fault(0, "learner 11 64 1;", 2, 11);
        fault(0, "size 0 0;", 2, 5);
        fault(0, "size 2 0;", 2, 7);
        fault(0, "size 2 1;", 2, 7);
        fault(0, "size 16 15;", 2, 5);
        fault(0, learners(16), 0, -1);
        fault(0, learners(16) + " learner 5 1 9;", 3, 225);
        fault(0, learners(17) + learners(1), 3, 224);
        fault(0, learners(16) + "learner 12 1 1;", 3, 224);
        fault(0, learners(15) + "learner 12 1 1;learner 1 1 1;", 2, 218);
        fault(0, learners(16) + "fee 1;couple 16 0;learner 1 1 1;", 2, 237);
        fault(0, learners(16) + "couple 15 0;perhaps 15 1;", 0, -1);
        fault(0, learners(16) + "learner 1 1 1;couple 16 0;", 3, 224);
        fault(0, times(5, "teacher 1 0;"), 0, -1);
        fault(0, times(6, "teacher 1 0;"), 3, 60);
        fault(0, times(5, "teacher 1 0;") + "\nteacher 0 4;", 3, 61);
        fault(0, times(4, "teacher 1 0;") + "teacher 0 0;teacher 1 0;", 2, 56);
        fault(0, learners(16) + times(5, "teacher 1 0;"), 0, -1);
        for (String line : PLAN_LINES) {
            fault(1, times(5, "even 0 0 0;") + line + ";", 0, -1);
            fault(1, times(6, "even 0 0 0;") + line + ";", 3, 66);
            fault(1, times(6, "even 0 0 0;") + line.replace("0 0 0", "5 6 12") + ";", 3, 66);
            fault(1, times(5, "even 0 0 0;") + line.replace("0 0 0", "5 0 0") + ";even 0 0 0;", 2, 56 + line.indexOf(' '));
        }
        fault(1, times(6, "even 0 0 0;sits 0;"), 0, -1);
        fault(1, "sits 0;", 4, 0);
        fault(1, "\n sits 0;", 4, 2);
        fault(1, "sits 16;", 4, 0);
        fault(1, "sits 0;" + times(7, "even 0 0 0;"), 4, 0);
        fault(1, "sits 0;sits 0;even 0 0 0;sits 0;", 4, 0);
        fault(1, "even 5 0 0;sits 0;", 2, 5);
        fault(1, "even 0 0 0;sits 0 16 17;", 2, 18);
    }

    private static void tapes() {
        String line = "learner 11 63 999;";
        String school = blanks(600 - 16 * 18) + times(16, line);
        SchoolDoors x = new SchoolDoors();
        due("600 bytes are a text", text(x, 0, -1, school), 0);
        due("its last LEARNER", x.learner(0, 15, 2), 999);
        feed(x, blanks(594) + "fee 7;");
        due("the 600th byte counts", x.text(0, -1), 1);
        due("its FEE", x.about(1, 8), 7);
        feed(x, blanks(595) + "fee 7");
        due("nothing is behind the 600th", x.text(0, -1), -1);
        due("the end's place", x.fault(1), 600);
        feed(x, "rooms 95;");
        due("cut", x.end(7), 7);
        due("the rest is gone", x.text(0, 1), -1);
        due("the end's place", x.fault(1), 7);
        feed(x, "fee 79;");
        due("cut in a NUMBER", x.end(5), 5);
        due("further bytes", x.feed(0x383b2020, 0x20202020, 0x20202020, 0x20202020, 0x20202020), 25);
        due("come behind it", x.text(0, 1), 1);
        due("7 and 8", x.about(1, 8), 78);
    }

    // ---- Terms 1: a PLAN GOES; promises 1 to 5

    private static void promise1() {
        SchoolDoors x = new SchoolDoors();
        due("1 no SCHOOLS", x.count(0), 0);
        due("1 no PLANS", x.count(1), 0);
        due("1 no tape", tape(x), 0);
        due("1 no FAULT", x.fault(0) * 10 + x.fault(1), -1);
        for (int k = -1; k <= 3; k++) {
            due("1 no image " + k, x.again(k), false);
        }
        due("1 no SCHOOL 0", x.about(0, 0), -1);
        due("1 no PLAN 0", x.plan(0, -1, 0), -2);
        due("1 nothing GOES", x.goes(0, 0), false);
        due("NONE", SchoolDoors.NONE, -1);
    }

    private static void promise2() {
        SchoolDoors x = new SchoolDoors();
        for (int n = 20; n <= 600; n += 20) {
            due("2 how many it has", x.feed(0x20202020, 0x20202020, 0x20202020, 0x20202020, 0x20202020), n);
        }
        due("2 more than 600", x.feed(0x66666666, 0, 0, 0, 0), -1);
        due("2 nothing came", tape(x), 600);
        due("2 nor in the place of others", x.text(0, -1), 0);
        due("2 the tape is empty", tape(x), 0);
        feed(x, blanks(580));
        due("2 580 and 20", x.feed(0x20202020, 0x20202020, 0x20202020, 0x20202020, 0x20202020), 600);
        feed(x, blanks(581));
        due("2 581 and 20", x.feed(-1, -1, -1, -1, -1), -1);
        due("2 still 581", tape(x), 581);
        due("2 as they were", x.text(0, 0), 0);
        due("2 of each number the highest first", x.feed(0x66656520, 0x3132333b, 0x636f7374, 0x20343b20, 0x20202020), 20);
        due("2 text", x.text(0, 0), 0);
        due("2 FEE", x.about(0, 8), 123);
        due("2 COST", x.about(0, 7), 4);
        x.feed(0x66656520, 0x313b8080, 0, 0, 0);
        due("2 a byte above 127 is itself", x.text(0, 0) * 10 + x.fault(1), -10 + 6);
        x.feed(0x20202020, 0x20202020, 0x20202020, 0x20202020, 0x202020ff);
        due("2 the twentieth byte", x.text(0, 0) * 100 + x.fault(1), -100 + 19);
    }

    private static void promise3() {
        SchoolDoors x = new SchoolDoors();
        due("3 none of none", x.end(0), 0);
        due("3 not so many", x.end(1), -1);
        x.feed(0x66656520, 0x373b2020, 0x20202020, 0x20202020, 0x20202020);
        for (int n : new int[] {-1, MIN, 21, 600, 601, MAX}) {
            due("3 not " + n, x.end(n), -1);
            due("3 they stay", tape(x), 20);
        }
        due("3 all", x.end(20), 20);
        due("3 one less", x.end(19), 19);
        due("3 gone", x.end(20), -1);
        due("3 none", x.end(0), 0);
        due("3 all are gone", x.end(1), -1);
        due("3 an empty text", x.text(0, -1), 0);
        due("3 nothing of it", x.about(0, 8), 0);
    }

    private static void promise4(int sort) {
        String good = sort == 0 ? "fee 7;" : "even 0 0 7;";
        String bad = sort == 0 ? "rooms 0;" : "sits 0;";
        Ask last = x -> sort == 0 ? x.about(2, 8) : x.plan(2, 0, 3);
        SchoolDoors x = new SchoolDoors();
        for (int i = 0; i < 3; i++) {
            due("4 none such: " + i, text(x, sort, i, good), -2);
            due("4 the tape is empty then, too", tape(x), 0);
            due("4 a FAULT", text(x, sort, -1, bad), -1);
            due("4 the tape is empty", tape(x), 0);
            due("4 none came", x.count(sort), i);
            due("4 a further one", text(x, sort, -1, good), i);
            due("4 the tape is empty", tape(x), 0);
            due("4 no FAULT", x.fault(0) * 10 + x.fault(1), -1);
            due("4 one came", x.count(sort), i + 1);
            due("4 none of the other sort", x.count(1 - sort), 0);
        }
        int[][] refused = {{sort, -1}, {sort, 3}, {sort, -2}, {sort, MIN}, {sort, MAX}, {1 - sort, 0}, {2, -1}, {-1, -1}, {2, 0},
            {-1, 0}, {MAX, 1}, {MIN, 2}};
        for (int[] r : refused) {
            refused(sort, r[0], r[1], good, bad);
        }
        due("4 in the place of the last one", text(x, sort, 2, good.replace('7', '8')), 2);
        due("4 it is there", last.of(x), 8);
        due("4 a FAULT in its place", text(x, sort, 2, bad), -1);
        due("4 the old one stays", last.of(x), 8);
        due("4 still 3", x.count(sort), 3);
        due("4 in the place of the first one", text(x, sort, 0, ""), 0);
        due("4 the last one stays", last.of(x), 8);
    }

    /** No text is read: neither a good nor a bad one. */
    private static void refused(int own, int sort, int at, String good, String bad) {
        SchoolDoors x = new SchoolDoors();
        for (int i = 0; i < 3; i++) {
            text(x, own, -1, good);
        }
        String before = told(x);
        for (String text : new String[] {bad, good}) {
            due("4 a FAULT", text(x, own, 0, bad), -1);
            feed(x, text);
            due("4 refused: " + sort + ", " + at, x.text(sort, at), -2);
            due("4 FAULT 0", x.fault(0), 0);
            due("4 no place", x.fault(1), -1);
            due("4 the tape is empty then, too", tape(x), 0);
        }
        due("4 all else stays", told(x).equals(before), true);
    }

    private static void promise5() {
        SchoolDoors x = new SchoolDoors();
        text(x, 0, -1, "  rooms 0;");
        due("5 what 0", x.fault(0), 2);
        due("5 what 1", x.fault(1), 8);
        for (int what : new int[] {-1, 2, MIN, MAX}) {
            due("5 another what", x.fault(what), -1);
        }
        x.feed(0, 0, 0, 0, 0);
        x.end(30);
        due("5 of the latest text() alone", x.fault(0) * 10 + x.fault(1), 28);
        x.end(0);
        due("5 an empty one", x.text(1, -1), 0);
        due("5 0 without", x.fault(0), 0);
        due("5 NONE without", x.fault(1), -1);
        due("5 at the first byte", text(x, 1, -1, "?"), -1);
        due("5 its place", x.fault(1), 0);
    }

    private static void goes() {
        String plan = "even 4 0 0;sits 15;";
        SchoolDoors x = with(learners(16) + times(5, "teacher 1 0;"), plan, "even 3 0 0;sits 14;", "");
        text(x, 0, -1, learners(15) + times(5, "teacher 1 0;"));
        text(x, 0, -1, learners(16) + times(4, "teacher 1 0;"));
        boolean[][] want = {{true, true, true}, {false, true, true}, {false, true, true}};
        for (int s = -1; s <= 3; s++) {
            for (int p = -1; p <= 3; p++) {
                boolean there = s >= 0 && s < 3 && p >= 0 && p < 3;
                due("9 PLAN " + p + " in SCHOOL " + s, x.goes(s, p), there && want[s][p]);
            }
        }
        due("9 far off", x.goes(MIN, MAX), false);
        x.sit(0, 0, 15, false);
        due("9 without the 16th one", x.goes(1, 0), true);
        due("9 still without the 5th TEACHER", x.goes(2, 0), false);
        x.sit(1, 0, 15, true);
        due("9 with the 16th one", x.goes(1, 1), false);
        SchoolDoors y = with("", "", "even 0 0 0;");
        due("9 nothing GOES in nothing", y.goes(0, 0), true);
        due("9 no TEACHER", y.goes(0, 1), false);
        SchoolDoors z = with("teacher 1 0;", "even 0 0 0;", "even 0 0 0;even 0 0 0;sits 0;", "even 0 0 0;even 1 0 0;");
        due("9 nobody SITS there", z.goes(0, 0), true);
        due("9 in the second CLASS", z.goes(0, 1), false);
        due("9 of the second CLASS", z.goes(0, 2), false);
    }

    /** All questions of SCHOOL 0 and PLAN 0, with arguments that there are. */
    private static String answers(SchoolDoors x) {
        StringBuilder s = new StringBuilder(told(x));
        for (int what = 0; what < 3; what++) {
            s.append("\n").append(x.wrong(0, 0, what)).append(' ').append(x.move(0, 0, what)).append(' ')
                    .append(x.merge(0, 0, what));
        }
        s.append("\n").append(x.home(0, 0)).append(' ').append(x.coin(0, 0)).append(' ').append(x.fewest(0, 0)).append(' ')
                .append(x.whom(0, 0)).append(' ').append(x.toll(0, 0)).append(' ').append(x.pass(0, 0)).append(' ')
                .append(x.ladder(0, 0, 5)).append(' ').append(x.lonely(0)).append(' ').append(x.fills(0, false)).append(' ')
                .append(x.fills(0, true)).append(' ').append(x.weeks(0, 0, 7, 3, -1)).append(' ').append(x.order(0, 0, 0));
        for (int i = 0; i < 16; i++) {
            s.append("\n").append(x.seats(0, 0, i == 0 ? 0 : 9 + i)).append(' ').append(x.line(0, 3, i < 2 ? i : i + 28))
                    .append(' ').append(x.test(0, 0, i)).append(' ').append(x.let(0, 0, i));
        }
        for (int k = 0; k < 6; k++) {
            s.append("\n").append(x.line(0, 6, 10 + k)).append(' ').append(x.line(0, 6, 20 + k)).append(' ')
                    .append(x.ill(0, 0, k))
                    .append(' ').append(x.busy(0, 0, k)).append(' ').append(x.lacks(0, k)).append(' ').append(x.open(0, 0, k + 3))
                    .append(' ').append(x.learnt(0, 0, k, -1)).append(' ').append(x.shift(0, 0, k)).append(' ')
                    .append(x.spread(0, 0, k))
                    .append(' ').append(x.ended(0, 0, 7, k)).append(' ').append(x.holds(0, 0, 7, 8, k)).append(' ')
                    .append(x.beside(0, 0, k, k)).append(' ').append(x.more(0, 0, k, 5)).append(' ').append(x.june(0,
                    0, k, k, 3));
        }
        return s.toString();
    }

    private static final String[] SCHOOLS = {
        TABLE + times(16, "learner 0 63 0;") + times(5, "teacher 63 3;") + "tell 9;couple 0 1;couple 4 5;perhaps 0 50;",
        TABLE + "learner 5 63 9;learner 4 3 9;learner 6 1 9;teacher 63 0;teacher 63 1;size 1 2;perhaps 1 50;couple 0 2;fee 3;tell 2;"
                ,
        TABLE + times(4, "learner 5 1 9;learner 0 63 3;") + times(3, "teacher 3 1;") + "crowd 1 9;couple 6 7;",
        ""};
    private static final String[] PLANS = {
        times(6, "even 0 0 0;" + sits(0, 15)),
        "even 0 0 5;sits 0 2;pairs 1 0 6;sits 1;",
        "two 0 0 0 5;sits 0 1 2;broad 1 1 4;sits 3 4;long 1 0 2;",
        ""};

    /** What was there before one in its place, and what was asked of it, counts no more. */
    private static void inThePlaceOfOthers() {
        for (int then = 0; then < 4; then++) {
            String want = answers(with(SCHOOLS[then], PLANS[then]));
            for (int before = 0; before < 4; before++) {
                SchoolDoors x = with(SCHOOLS[before], PLANS[before]);
                x.seats(0, 0, 0);
                for (int k = 0; k < 6; k++) {
                    x.ill(0, 0, k);
                    x.beside(0, 0, k, -1);
                    x.holds(0, 0, 3, 8, k);
                    x.line(0, k, 0);
                }
                text(x, 0, 0, SCHOOLS[then]);
                text(x, 1, 0, PLANS[then]);
                x.ill(0, 0, 1);
                due("4 SCHOOL and PLAN " + then + " in the place of " + before, answers(x).equals(want), true);
            }
        }
    }

    public static void main(String[] args) {
        numbersOfSchools();
        numbersOfPlans();
        couples();
        atFirst();
        laterOnes();
        bytes();
        tokens();
        allLines();
        faults();
        tapes();
        promise1();
        promise2();
        promise3();
        promise4(0);
        promise4(1);
        promise5();
        goes();
        inThePlaceOfOthers();
        end();
    }
}
