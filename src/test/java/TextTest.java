import java.util.ArrayList;
import java.util.List;
import java.util.Random;

/** Texts that are cut, mixed and spoilt by seeds: their faults and places, against a reader in two goes. */
public final class TextTest {
    private static int wrong = 0;
    private static int[] seen = new int[5];

    private static final String[] SCHOOL = {
        "learner 11 63 999", "couple L L", "perhaps L 100", "teacher 63 3", "above 3 99 100", "below 3 99 100",
        "crowd 15 20", "size 15 15", "rooms 9", "cost 999", "fee 999", "weeks 30", "rise 99", "tell 99", "long 200"};
    private static final String[] SCHOOL_LEAST = {
        "learner 0 1 0", "couple 0 0", "perhaps 0 0", "teacher 1 0", "above 0 0 0", "below 1 0 0",
        "crowd 1 0", "size 1 1", "rooms 1", "cost 0", "fee 0", "weeks 1", "rise 0", "tell 0", "long 0"};
    private static final String[] PLAN = {
        "even 4 5 11", "two 4 5 11 11", "broad 4 5 11", "long 4 5 11", "pairs 4 5 11", "sits 15"};

    private static final class Token {
        int place;
        String text;

        Token(int place, String text) {
            this.place = place;
            this.text = text;
        }

        boolean isNumber() {
            return text.matches("[0-9]{1,3}");
        }
    }

    private static List<Token> tokens(String text) {
        List<Token> all = new ArrayList<>();
        java.util.regex.Matcher m = java.util.regex.Pattern.compile("[a-z]+|[0-9]+|[^ \n]", java.util.regex.Pattern.DOTALL)
                .matcher(text);
        while (m.find()) {
            all.add(new Token(m.start(), m.group()));
        }
        all.add(new Token(text.length(), ""));
        return all;
    }

    private static int indexOf(boolean school, String word) {
        String[] lines = school ? SCHOOL : PLAN;
        for (int i = 0; i < lines.length; i++) {
            if (lines[i].substring(0, lines[i].indexOf(' ')).equals(word)) {
                return i;
            }
        }
        return -1;
    }

    private static int[] faultOf(boolean school, String text) {
        List<Token> all = tokens(text);
        List<int[]> found = new ArrayList<>();
        int learners = 0;
        int teachers = 0;
        int classes = 0;
        int at = 0;
        while (!all.get(at).text.isEmpty()) {
            int line = indexOf(school, all.get(at).text);
            if (line < 0) {
                return new int[] {1, all.get(at).place};
            }
            String word = all.get(at).text;
            int place = all.get(at).place;
            at++;
            List<Token> numbers = new ArrayList<>();
            int need = (school ? SCHOOL : PLAN)[line].split(" ").length - 1;
            while (all.get(at).isNumber() && (numbers.size() < need || word.equals("sits"))) {
                numbers.add(all.get(at));
                at++;
            }
            if (numbers.size() < need || !all.get(at).text.equals(";")) {
                return new int[] {1, all.get(at).place};
            }
            at++;
            for (int i = 0; i < numbers.size(); i++) {
                if (!canBe(school, line, i, numbers, learners)) {
                    found.add(new int[] {2, numbers.get(i).place});
                }
            }
            learners += word.equals("learner") ? 1 : 0;
            teachers += word.equals("teacher") ? 1 : 0;
            classes += !school && !word.equals("sits") ? 1 : 0;
            if (word.equals("learner") && learners > 16 || word.equals("teacher") && teachers > 5
                    || !school && !word.equals("sits") && classes > 6) {
                found.add(new int[] {3, place});
            }
            if (word.equals("sits") && classes == 0) {
                found.add(new int[] {4, place});
            }
        }
        int[] first = {0, -1};
        for (int[] f : found) {
            if (first[0] == 0 || f[1] < first[1] || f[1] == first[1] && f[0] < first[0]) {
                first = f;
            }
        }
        return first;
    }

    private static boolean canBe(boolean school, int line, int i, List<Token> numbers, int learners) {
        int n = Integer.parseInt(numbers.get(i).text);
        String[] high = (school ? SCHOOL : PLAN)[line].split(" ");
        if (high[0].equals("sits")) {
            return n <= 15;
        }
        if (high[i + 1].equals("L")) {
            return n < learners && (i == 0 || n != Integer.parseInt(numbers.get(0).text));
        }
        int low = school ? Integer.parseInt(SCHOOL_LEAST[line].split(" ")[i + 1]) : 0;
        if (high[0].equals("size") && i == 1) {
            low = Integer.parseInt(numbers.get(0).text);
        }
        return n >= low && n <= Integer.parseInt(high[i + 1]);
    }

    private static String textBy(Random r, boolean school) {
        StringBuilder text = new StringBuilder();
        int lines = r.nextInt(22);
        boolean rare = r.nextInt(3) > 0;
        String[] words = school ? SCHOOL : PLAN;
        int often = r.nextBoolean() ? 0 : r.nextInt(words.length);
        for (int i = 0; i < lines; i++) {
            int line = r.nextBoolean() ? often : r.nextInt(words.length);
            String[] high = words[line].split(" ");
            text.append(high[0]);
            int need = high[0].equals("sits") ? 1 + r.nextInt(4) : high.length - 1;
            for (int j = 1; j <= need; j++) {
                String top = high[Math.min(j, high.length - 1)];
                int most = top.equals("L") ? 15 : Integer.parseInt(top);
                int low = school && !top.equals("L") ? Integer.parseInt(SCHOOL_LEAST[line].split(" ")[j]) : 0;
                int n = low + r.nextInt(most - low + 1);
                if (high[0].equals("size") || r.nextInt(rare ? 60 : 8) == 0) {
                    n = r.nextInt(3) == 0 ? Math.min(most + 1, 999) : Math.max(0, most - r.nextInt(2));
                }
                text.append(j == 1 && r.nextInt(30) == 0 ? "" : r.nextInt(9) == 0 ? "\n " : " ");
                text.append(r.nextInt(20) == 0 && n < 100 ? "0" + n : "" + n);
            }
            text.append(r.nextInt(9) == 0 ? " ;" : ";").append(r.nextInt(9) == 0 ? "\n" : "");
        }
        if (r.nextInt(4) == 0 && text.length() > 0) {
            char[] odd = {'a', 'z', '0', '9', ';', ' ', '\n', '\t', '`', '{', '/', ':', 'A', 0, 255, 160};
            int at = r.nextInt(text.length());
            char c = odd[r.nextInt(odd.length)];
            if (r.nextBoolean()) {
                text.setCharAt(at, c);
            } else if (r.nextBoolean()) {
                text.insert(at, c);
            } else {
                text.deleteCharAt(at);
            }
        }
        if (r.nextInt(12) == 0) {
            text.setLength(r.nextInt(text.length() + 1));
        }
        text.setLength(Math.min(600, text.length()));
        return text.toString();
    }

    private static void feed(SchoolDoors x, String text) {
        byte[] bytes = new byte[(text.length() + 19) / 20 * 20];
        for (int i = 0; i < text.length(); i++) {
            bytes[i] = (byte) text.charAt(i);
        }
        int[] n = new int[5];
        for (int at = 0; at < bytes.length; at += 20) {
            for (int i = 0; i < 5; i++) {
                n[i] = 0;
                for (int j = 0; j < 4; j++) {
                    n[i] = n[i] << 8 | bytes[at + 4 * i + j] & 255;
                }
            }
            x.feed(n[0], n[1], n[2], n[3], n[4]);
        }
        x.end(text.length());
    }

    private static void due(String text, String what, int got, int want) {
        if (got != want) {
            wrong++;
            if (wrong < 20) {
                System.out.println(what + " answered " + got + ", due is " + want + " of: " + text.replace("\n", "\\n"));
            }
        }
    }

    public static void main(String[] args) {
        for (int seed = 1; seed <= 20000; seed++) {
            Random r = new Random(seed * 0x9E3779B97F4A7C15L);
            boolean school = r.nextBoolean();
            String text = textBy(r, school);
            int[] want = faultOf(school, text);
            seen[want[0]]++;
            SchoolDoors x = new SchoolDoors();
            feed(x, text);
            due(text, "text", x.text(school ? 0 : 1, -1), want[0] == 0 ? 0 : -1);
            due(text, "fault(0)", x.fault(0), want[0]);
            due(text, "fault(1)", x.fault(1), want[1]);
            due(text, "count", x.count(school ? 0 : 1), want[0] == 0 ? 1 : 0);
        }
        System.out.println("texts by faults: " + seen[0] + " without, " + seen[1] + ", " + seen[2] + ", " + seen[3]
                + ", " + seen[4] + "; " + wrong + " answers are not as due");
        for (int n : seen) {
            wrong += n < 100 ? 1 : 0;
        }
        if (wrong != 0) {
            System.exit(1);
        }
    }
}
