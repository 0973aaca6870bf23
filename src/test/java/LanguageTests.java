import java.lang.reflect.Modifier;
import java.nio.file.Files;
import java.nio.file.Path;
import java.util.ArrayList;
import java.util.List;
import java.util.Set;
import java.util.TreeSet;
import java.util.regex.Matcher;
import java.util.regex.Pattern;

/** What of LANGUAGE.md can be seen from the outside: the face, forbidden words, sizes. */
public final class LanguageTests {
    private static int wrong = 0;

    public static void main(String[] args) throws Exception {
        String source = Files.readString(Path.of("src/main/java/SleepersPay.java"));
        String code = Pattern.compile("(?s)/\\*.*?\\*/").matcher(source).replaceAll(m -> "\n".repeat(lines(m.group()) - 1));
        forbidden(code);
        methods(code);
        face();
        classes();
        System.out.println(wrong == 0 ? "LanguageTests: all is as due" : "LanguageTests: " + wrong + " wrong");
        if (wrong != 0) {
            System.exit(1);
        }
    }

    private static void check(boolean holds, String what) {
        if (!holds) {
            wrong++;
            System.out.println(what);
        }
    }

    private static int lines(String text) {
        return text.split("\n", -1).length;
    }

    private static void forbidden(String code) {
        for (String word : List.of("throw", "throws", "try", "catch", "finally", "synchronized", "assert", "import",
            "package", "->", "::", "Exact", "System\\.out", "Math\\.random", "Thread", "protected", "volatile")) {
            String pattern = word.matches("[a-z]+") ? "\\b" + word + "\\b" : word;
            check(!Pattern.compile(pattern).matcher(code).find(), "rule 4, 6 or 13: " + word);
        }
        check(!Pattern.compile("\"\\s*\\+|\\+\\s*\"").matcher(code).find(), "rule 10: texts joined by +");
        check(code.chars().allMatch(c -> c < 127), "rule 4: a sign above 126");
    }

    private static void methods(String code) {
        Matcher m = Pattern.compile("(?m)^( +)[\\w\\[\\] ]+?(\\w+)\\(([^)]*)\\) \\{$").matcher(code);
        int seen = 0;
        while (m.find()) {
            String end = "\n" + m.group(1) + "}\n";
            int to = code.indexOf(end, m.end());
            if (m.group().matches("(?s) *(if|for|while|switch|else|do)\\b.*") || to < 0) {
                continue;
            }
            seen++;
            check(lines(code.substring(m.start(), to)) <= 60, "rule 11: " + m.group(2) + " is too long");
            check(m.group(3).split(",").length <= 7, "rule 11: " + m.group(2) + " has too many parameters");
        }
        check(seen > 100, "only " + seen + " methods seen");
    }

    private static void face() {
        Set<String> names = new TreeSet<>();
        List<String> hidden = new ArrayList<>();
        for (var method : SleepersPay.class.getDeclaredMethods()) {
            int how = method.getModifiers();
            check(Modifier.isPublic(how) || Modifier.isPrivate(how), "rule 1: " + method);
            if (Modifier.isPublic(how)) {
                names.add(method.getName());
            } else {
                hidden.add(method.getName());
            }
        }
        check(names.equals(Set.of("feed", "end", "street", "rule", "force", "person", "lamp", "hour", "sleep", "light",
            "undo", "owed", "ahead", "cheap", "rest", "dark", "guild", "fact", "slept", "ask", "nights", "turned",
            "spite", "seed", "lives", "count", "image", "back")), "rule 1: the face is " + names);
        for (Class<?> inside : SleepersPay.class.getDeclaredClasses()) {
            for (var method : inside.getDeclaredMethods()) {
                hidden.add(method.getName());
            }
        }
        for (String name : hidden) {
            check(!names.contains(name), "rule 1: " + name + " is the name of a public method too");
        }
        for (var field : SleepersPay.class.getDeclaredFields()) {
            check(Modifier.isPrivate(field.getModifiers()) || field.getName().equals("NONE"), "rule 1: " + field);
        }
    }

    private static void classes() {
        Class<?>[] inside = SleepersPay.class.getDeclaredClasses();
        check(inside.length <= 11, "rule 11: too many classes");
        for (Class<?> one : inside) {
            check(Modifier.isStatic(one.getModifiers()), "rule 2: " + one);
            int fields = 0;
            for (var field : one.getDeclaredFields()) {
                boolean isStatic = Modifier.isStatic(field.getModifiers());
                check(!isStatic || Modifier.isFinal(field.getModifiers()), "rule 5: " + field);
                fields += isStatic ? 0 : 1;
            }
            check(fields <= 20, "rule 11: too many fields in " + one);
        }
    }
}
