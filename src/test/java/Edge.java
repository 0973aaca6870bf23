import java.lang.reflect.Method;
import java.lang.reflect.Modifier;
import java.nio.file.Files;
import java.nio.file.Path;
import java.util.ArrayList;
import java.util.Arrays;
import java.util.Comparator;
import java.util.List;
import java.util.function.ToIntFunction;

/**
 * Tests of boundaries, a method each: it begins with says(..), the sentence of
 * the document that names the boundary, word by word, so that a sentence which
 * changes there is missed here.
 */
final class Edge {
    static final int NONE = SleepersPay.NONE;
    static final int TERMS = 0;
    private static final int PROMISES = 29;
    /** HOURS cost 30, 42, 12 and 12. */
    static final String A = "street 4;person 2 20;person 3 10;person 1 30;work 1 0 1;work 2 3 3;"
        + "lamp 0 30;lamp 9 12;lit 0 0 1;lit 1 1 3";

    private static final String[] SECTIONS = sections();
    private static int wrong = 0;
    private static int section = TERMS;
    private static String sentence = "";

    private Edge() { }

    /** The text of Terms, then of each promise, with one blank for all that is blank. */
    private static String[] sections() {
        String[] sections = new String[PROMISES + 1];
        Arrays.fill(sections, "");
        try {
            for (String part : Files.readString(Path.of("../shared/DOC.md")).split("(?m)^## ")) {
                String text = part.replace("```text", " ").replace("```", " ").replaceAll("\\s+", " ");
                if (text.startsWith("Terms")) {
                    sections[TERMS] = text;
                } else if (text.startsWith("Promise ")) {
                    sections[Integer.parseInt(text.substring(8, text.indexOf(':')))] = text;
                }
            }
        } catch (java.io.IOException e) {
            throw new IllegalStateException(e);
        }
        return sections;
    }

    /** Runs every method of the class that takes and answers nothing. */
    static void run(Class<?> tests) throws Exception {
        List<Method> methods = new ArrayList<>();
        for (Method method : tests.getDeclaredMethods()) {
            boolean plain = method.getParameterCount() == 0 && method.getReturnType() == void.class;
            if (plain && Modifier.isStatic(method.getModifiers()) && !method.isSynthetic()) {
                methods.add(method);
            }
        }
        methods.sort(Comparator.comparing(Method::getName));
        for (Method method : methods) {
            sentence = "";
            method.setAccessible(true);
            method.invoke(null);
            if (sentence.isEmpty()) {
                tell(method.getName() + " names no sentence");
            }
        }
        System.out.println(tests.getSimpleName() + ": " + methods.size() + " boundaries, "
            + (wrong == 0 ? "all answers are as due" : wrong + " wrong"));
        if (wrong != 0) {
            System.exit(1);
        }
    }

    private static void tell(String what) {
        wrong++;
        System.out.println((section == TERMS ? "Terms" : "promise " + section) + ", '" + sentence + "': " + what);
    }

    static void says(int where, String words) {
        section = where;
        sentence = words;
        if (!SECTIONS[where].contains(words)) {
            tell("the document does not say so");
        }
    }

    static void due(String call, int got, int want) {
        if (got != want) {
            tell(call + " answered " + got + ", due is " + want);
        }
    }

    static void due(String call, boolean got, boolean want) {
        due(call, got ? 1 : 0, want ? 1 : 0);
    }

    static SleepersPay street(String text) {
        SleepersPay x = new SleepersPay();
        due("the people of '" + text + "'", Telling.street(x, text) >= 0, true);
        return x;
    }

    static void inForce(SleepersPay x, String rule) {
        int number = Telling.rule(x, rule);
        due("'" + rule + "' is a rule", number >= 0, true);
        x.force(number);
    }

    static void hours(SleepersPay x, int n) {
        for (int i = 0; i < n; i++) {
            x.hour();
        }
    }

    static void badStreet(String text, int place, int kind) {
        due("'" + text + "'", Telling.street(new SleepersPay(), text), Telling.fault(place, kind));
    }

    static void badRule(String text, int place, int kind) {
        due("'" + text + "'", Telling.rule(new SleepersPay(), text), Telling.fault(place, kind));
    }

    static void goodStreet(String text, int people) {
        due("'" + text + "'", Telling.street(new SleepersPay(), text), people);
    }

    static void goodRule(String text) {
        due("'" + text + "'", Telling.rule(new SleepersPay(), text), 0);
    }

    /** An object of which all is in use: a refused call that changes anything is seen by it. */
    static SleepersPay busy() {
        SleepersPay x = street(A);
        Telling.rule(x, "sleep 1 - owed / 20");
        Telling.rule(x, "sleep asleep");
        x.force(1);
        x.seed(77);
        x.fact(5, 0, 12, 30);
        x.sleep(0, true);
        x.hour();
        x.light(0, false);
        x.light(0, true);
        x.image(2);
        x.fact(4, 2, 20, 30);
        x.light(1, false);
        x.sleep(2, true);
        x.force(0);
        Telling.tape(x, "sleep 1");
        return x;
    }

    /** The call answers this of a busy object, and nothing happens. */
    static void nothing(String name, ToIntFunction<SleepersPay> call, int want) {
        SleepersPay x = busy();
        due(name, call.applyAsInt(x), want);
        alike(name, x, busy());
    }

    /** The one is as the other in all that can be seen, ACTS undone and images gone back to too. */
    static void alike(String name, SleepersPay got, SleepersPay want) {
        List<Integer> a = all(got);
        List<Integer> b = all(want);
        if (!a.equals(b)) {
            tell(name + ": it is " + a + ", due is " + b);
        }
    }

    private static List<Integer> all(SleepersPay x) {
        List<Integer> all = new ArrayList<>();
        seen(x, all);
        int acts = x.count(13);
        for (int i = 0; i < acts; i++) {
            all.add(x.undo());
            all.add(x.count(7));
            all.add(x.count(9));
            all.add(x.count(10));
            all.add(x.lives(1, 4, 0, 1));
            all.add(x.owed(0, 0));
        }
        all.add(x.rule());
        for (int k = 0; k < 4; k++) {
            all.add(x.back(k));
            if (k == 2) {
                seen(x, all);
            }
        }
        return all;
    }

    private static void seen(SleepersPay x, List<Integer> all) {
        for (int what = 0; what < 16; what++) {
            all.add(x.count(what));
        }
        for (int p = NONE; p < 5; p++) {
            for (int what = 2; what < 5; what++) {
                all.add(x.person(p, what));
            }
            all.add(x.owed(p, 0));
            all.add(x.owed(p, 1));
            all.add(x.slept(p));
        }
        for (int n = 1; n < 6; n++) {
            all.add(x.lives(1, n, 0, 1));
        }
        all.add(x.lives(3, 60, 50, 0));
        all.add(x.turned(0, 30, 0));
    }
}
