import java.lang.reflect.Constructor;
import java.lang.reflect.Field;
import java.lang.reflect.Method;
import java.lang.reflect.Modifier;
import java.nio.file.Files;
import java.nio.file.Path;
import java.util.ArrayList;
import java.util.Arrays;
import java.util.List;
import java.util.Random;
import java.util.TreeSet;

/** The document's face and no more; the words that LANGUAGE.md rules out; no call throws; queries change nothing. */
public final class FaceTest {
    private static int wrong = 0;

    private static final String[] FACE = {
        "int feed 5i", "int end 1i", "int text 2i", "int fault 1i", "int about 2i", "int learner 3i", "int plan 3i",
        "boolean goes 2i", "boolean sit 3ib", "int fit 4i", "int learnt 4i", "int wrong 3i", "int home 2i", "int coin 2i",
        "int line 3i", "int seats 3i", "int fewest 2i", "int test 3i", "int whom 2i", "int move 3i", "int ill 3i",
        "int fills 1ib", "int next 3i", "int ladder 3i", "int beside 4i", "int weeks 5i", "int ended 4i", "int lacks 2i",
        "int more 4i", "int lonely 1i", "int shift 3i", "int order 3i", "int let 3i", "int june 5i", "int merge 3i",
        "int open 3i", "int off 2i", "int holds 5i", "int spread 3i", "int toll 2i", "int busy 3i", "int pass 2i",
        "int count 1i", "boolean image 1i", "boolean again 1i"};

    private static void check(String what, boolean holds) {
        if (!holds) {
            wrong++;
            System.out.println(what);
        }
    }

    private static String told(Method m) {
        int ints = 0;
        String rest = "";
        for (Class<?> c : m.getParameterTypes()) {
            if (c == int.class) {
                ints++;
            } else {
                rest += c == boolean.class ? "b" : "?";
            }
        }
        return m.getReturnType() + " " + m.getName() + " " + ints + "i" + rest;
    }

    private static void face() {
        TreeSet<String> found = new TreeSet<>();
        TreeSet<String> names = new TreeSet<>();
        for (Method m : SchoolDoors.class.getDeclaredMethods()) {
            if (Modifier.isPublic(m.getModifiers())) {
                found.add(told(m));
                names.add(m.getName());
            } else {
                check("not private: " + m, Modifier.isPrivate(m.getModifiers()));
            }
        }
        for (Method m : SchoolDoors.class.getDeclaredMethods()) {
            check("bears a public one's name: " + m, Modifier.isPublic(m.getModifiers()) || !names.contains(m.getName()));
        }
        check("the face is " + found, found.equals(new TreeSet<>(Arrays.asList(FACE))));
        for (Field f : SchoolDoors.class.getDeclaredFields()) {
            boolean none = f.getName().equals("NONE") && Modifier.isPublic(f.getModifiers());
            check("not private: " + f, none || Modifier.isPrivate(f.getModifiers()));
        }
        Constructor<?>[] made = SchoolDoors.class.getDeclaredConstructors();
        check("constructors", made.length == 1 && Modifier.isPublic(made[0].getModifiers()));
        check("final", Modifier.isFinal(SchoolDoors.class.getModifiers()));
        Class<?>[] inside = SchoolDoors.class.getDeclaredClasses();
        check("classes inside: " + inside.length, inside.length < 12);
        for (Class<?> c : inside) {
            check("not static: " + c, Modifier.isStatic(c.getModifiers()));
            check("fields of " + c, Arrays.stream(c.getDeclaredFields())
                    .filter(f -> !Modifier.isStatic(f.getModifiers())).count() <= 20);
            for (Method m : c.getDeclaredMethods()) {
                check("bears a public one's name: " + m, !names.contains(m.getName()));
                check("parameters of " + m, m.getParameterCount() <= 7);
            }
        }
    }

    private static void language() throws Exception {
        String text = Files.readString(Path.of("src/main/java/SchoolDoors.java"));
        String code = text.replaceAll("(?s)/\\*.*?\\*/", " ").replaceAll("//[^\n]*", " ").replaceAll("\"[^\"\n]*\"", "\"\"");
        String[] banned = {"throw", "throws", "try", "catch", "synchronized", "assert", "import", "package", "protected",
            "native", "volatile", "transient", "instanceof", "goto", "equals", "hashCode", "toString", "Object", "var"};
        List<String> words = Arrays.asList(code.split("[^A-Za-z0-9_]+"));
        for (String word : banned) {
            check("the word " + word, !words.contains(word));
        }
        check("a lambda or a method reference", !code.contains("->") && !code.contains("::"));
        check("an annotation", !code.contains("@"));
        for (int i = 0; i < text.length(); i++) {
            check("the sign " + (int) text.charAt(i), text.charAt(i) < 127);
        }
    }

    private static final int[] WILD = {0, 1, 2, 3, 4, 5, 6, 7, 8, 10, 11, 12, 15, 16, 17, 20, 30, 31, 45, 55, 100, 600, 999,
        -1, -2, -3, -16, 1 << 16, Integer.MAX_VALUE, Integer.MIN_VALUE, Integer.MIN_VALUE + 1, Integer.MAX_VALUE - 1};

    private static int pick(Random r) {
        int near = r.nextInt(4);
        return near < 2 ? r.nextInt(6) - 1 : near == 2 ? WILD[r.nextInt(WILD.length)] : r.nextInt();
    }

    private static final String[] TEXTS = {
        "learner 2 1 100;learner 3 3 50;learner 3 1 80;teacher 3 1;teacher 1 0;above 0 40 90;fee 60;couple 0 2;perhaps 1 50;",
        "learner 11 63 9;learner 11 63 9;learner 0 63 9;learner 0 1 9;teacher 63 3;teacher 63 3;teacher 63 3;teacher 1 1;"
            + "teacher 9 2;above 3 99 1;below 3 99 9;tell 99;long 200;size 1 1;",
        "", "even 0 0 3;sits 0 1 2;pairs 0 1 7;sits 2;", "two 4 5 11 0;broad 3 0 0;sits 0 1;long 2 2 2;pairs 1 1 1;sits 3;",
        "even 0 0 0;even 0 0 0;even 0 0 0;even 0 0 0;even 0 0 0;even 0 0 0;sits 0;", "learner 1 1 1", "sits 9;"};

    private static void feed(SchoolDoors x, String text) {
        byte[] bytes = new byte[(text.length() + 19) / 20 * 20];
        for (int i = 0; i < text.length(); i++) {
            bytes[i] = (byte) text.charAt(i);
        }
        x.end(0);
        int[] n = new int[5];
        for (int at = 0; at < bytes.length; at += 20) {
            for (int i = 0; i < 5; i++) {
                n[i] = 0;
                for (int j = 0; j < 4; j++) {
                    n[i] = n[i] << 8 | bytes[at + 4 * i + j] & 255;
                }
            }
            x.feed(n[0], n[1], n[2], n[3], n[4]);
        }
        x.end(text.length());
    }

    /** All that can be asked without a change. */
    private static String state(SchoolDoors x) {
        StringBuilder s = new StringBuilder();
        s.append(x.count(0)).append(' ').append(x.count(1)).append(' ').append(x.fault(0)).append(' ').append(x.fault(1));
        for (int i = 0; i < x.count(0); i++) {
            for (int what = 0; what < 60; what++) {
                s.append(' ').append(x.about(i, what));
            }
            for (int l = 0; l < x.about(i, 0); l++) {
                for (int what = 0; what < 5; what++) {
                    s.append(' ').append(x.learner(i, l, what));
                }
            }
        }
        for (int i = 0; i < x.count(1); i++) {
            for (int k = 0; k < x.plan(i, -1, 0); k++) {
                for (int what = 0; what < 6; what++) {
                    s.append(' ').append(x.plan(i, k, what));
                }
            }
        }
        return s.toString();
    }

    private static void wild() throws Exception {
        List<Method> methods = new ArrayList<>();
        for (Method m : SchoolDoors.class.getDeclaredMethods()) {
            if (Modifier.isPublic(m.getModifiers())) {
                methods.add(m);
            }
        }
        methods.sort((a, b) -> a.getName().compareTo(b.getName()));
        List<String> changes = Arrays.asList("feed", "end", "text", "sit", "next", "again");
        for (int seed = 0; seed < 150; seed++) {
            Random r = new Random(seed * 0x9E3779B97F4A7C15L);
            SchoolDoors x = new SchoolDoors();
            for (int i = 0; i < 1500; i++) {
                Method m = methods.get(r.nextInt(methods.size()));
                if (r.nextInt(40) == 0) {
                    feed(x, TEXTS[r.nextInt(TEXTS.length)]);
                    x.text(r.nextInt(2), r.nextInt(4) - 1);
                }
                Object[] args = new Object[m.getParameterCount()];
                for (int j = 0; j < args.length; j++) {
                    args[j] = m.getParameterTypes()[j] == int.class ? (Object) pick(r) : (Object) r.nextBoolean();
                }
                String before = seed < 20 ? state(x) : "";
                try {
                    m.invoke(x, args);
                } catch (java.lang.reflect.InvocationTargetException e) {
                    check(m.getName() + Arrays.toString(args) + " threw " + e.getCause(), false);
                }
                if (seed < 20 && !changes.contains(m.getName())) {
                    check(m.getName() + Arrays.toString(args) + " changed something", before.equals(state(x)));
                }
            }
        }
    }

    public static void main(String[] args) throws Exception {
        face();
        language();
        wild();
        System.out.println(wrong + " rules are broken");
        if (wrong != 0) {
            System.exit(1);
        }
    }
}
