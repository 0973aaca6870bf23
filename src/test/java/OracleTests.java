import java.nio.charset.StandardCharsets;
import java.util.Arrays;
import java.util.Random;

/** Long runs of calls drawn from a fixed seed: SleepersPay and the Oracle must answer alike. */
public final class OracleTests {
    private static final String[] WORDS = {"person", "hour", "night", "need", "worth", "slept", "left", "cost",
        "others", "asleep", "owed", "debt", "own"};
    private static final String SPOILERS = " ;[]<>=+-*/%0123456789abifnotrdslep\0\t\u00e9A";

    private final Random random;
    private final SleepersPay made = new SleepersPay();
    private final Oracle oracle = new Oracle();
    private final StringBuilder log = new StringBuilder();
    private int wrong = 0;

    private OracleTests(long seed) {
        random = new Random(seed);
    }

    public static void main(String[] args) {
        int runs = args.length > 0 ? Integer.parseInt(args[0]) : 1500;
        int wrong = 0;
        for (int seed = 0; seed < runs && wrong < 5; seed++) {
            OracleTests run = new OracleTests(seed);
            run.play();
            if (run.wrong > 0) {
                wrong++;
                System.out.println("run " + seed + ":\n" + run.log);
            }
        }
        System.out.println(wrong == 0 ? "OracleTests: all answers are as due" : "OracleTests: answers are not as due");
        if (wrong != 0) {
            System.exit(1);
        }
    }

    private int upTo(int n) {
        return random.nextInt(n + 1);
    }

    /** Mostly low to high, now and then a bit beyond or far beyond. */
    private int near(int low, int high) {
        int dice = upTo(59);
        if (dice == 0) {
            return low - 1;
        }
        if (dice == 1) {
            return high + 1;
        }
        if (dice == 2) {
            return random.nextInt();
        }
        return low + random.nextInt(high - low + 1);
    }

    private void due(String call, int got, int want) {
        log.append("  ").append(call).append(" = ").append(want);
        if (got != want) {
            wrong++;
            log.append("  BUT GOT ").append(got);
        }
        log.append('\n');
    }

    private void play() {
        for (int i = 0; i < 3 && made.count(0) == 0 && upTo(9) > 0; i++) {
            tell(streetText(), true);
        }
        for (int i = upTo(3); i > 0; i--) {
            tell(ruleText(), false);
        }
        for (int i = 0; i < 150 && wrong == 0; i++) {
            call();
        }
    }

    private void tell(String text, boolean street) {
        String told = upTo(3) == 0 ? spoil(text) : text;
        byte[] bytes = told.getBytes(StandardCharsets.ISO_8859_1);
        if (upTo(9) > 0) {
            end(0);
        }
        int before = made.count(15);
        int length = Math.min(400, bytes.length);
        byte[] padded = Arrays.copyOf(bytes, (length + 19) / 20 * 20);
        log.append("  '").append(told).append("'\n");
        java.nio.ByteBuffer b = java.nio.ByteBuffer.wrap(padded);
        while (b.remaining() >= 20) {
            feed(b.getInt(), b.getInt(), b.getInt(), b.getInt(), b.getInt());
        }
        end(before + length);
        if (street) {
            due("street()", made.street(), oracle.street());
        } else {
            due("rule()", made.rule(), oracle.rule());
        }
    }

    private void feed(int a, int b, int c, int d, int e) {
        due("feed()", made.feed(a, b, c, d, e), oracle.feed(a, b, c, d, e));
    }

    private void end(int n) {
        due("end(" + n + ")", made.end(n), oracle.end(n));
    }

    private String spoil(String text) {
        StringBuilder s = new StringBuilder(text);
        int at = upTo(s.length());
        char sign = SPOILERS.charAt(random.nextInt(SPOILERS.length()));
        switch (upTo(4)) {
            case 0 -> s.insert(at, sign);
            case 1 -> s.setLength(at);
            case 2 -> {
                if (at < s.length()) {
                    s.deleteCharAt(at);
                }
            }
            case 3 -> {
                if (at < s.length()) {
                    s.setCharAt(at, sign);
                }
            }
            default -> s.append(';').append(text);
        }
        return s.toString();
    }

    private String blank() {
        return upTo(3) == 0 ? "   ".substring(upTo(2)) : " ";
    }

    private String streetText() {
        int hours = 2 + upTo(8);
        StringBuilder s = new StringBuilder("street " + hours);
        int people = upTo(5);
        int lamps = upTo(5);
        for (int p = 0; p < people; p++) {
            s.append(";person ").append(upTo(hours)).append(blank()).append(upTo(1) == 0 ? upTo(60) : upTo(12));
        }
        for (int l = 0; l < lamps; l++) {
            int whose = people == 0 || upTo(1) == 0 ? 9 : upTo(people - 1);
            s.append(blank()).append(";lamp ").append(whose).append(' ').append(1 + upTo(upTo(1) == 0 ? 59 : 5));
        }
        for (int i = upTo(8); i > 0 && lamps > 0; i--) {
            span(s, ";lit ", lamps, hours);
        }
        for (int i = upTo(1) == 0 ? upTo(3) : upTo(9); i > 0 && people > 0; i--) {
            span(s, ";work ", people, hours);
        }
        return s.toString();
    }

    private void span(StringBuilder s, String word, int told, int hours) {
        int first = upTo(hours - 1);
        int last = Math.min(hours - 1, first + upTo(2));
        s.append(word).append(upTo(told - 1)).append(' ').append(first).append(blank()).append(last);
    }

    private String ruleText() {
        StringBuilder s = new StringBuilder();
        int clauses = 1 + upTo(3);
        if (upTo(14) == 0) {
            return "sleep others;".repeat(upTo(5)).concat("sleep 1 if hour=1;".repeat(3 + upTo(7))).concat("sleep 2");
        }
        for (int i = 0; i < clauses; i++) {
            s.append(i == 0 ? "sleep " : ";sleep ");
            sum(s);
            if (upTo(3) > 0) {
                s.append(" if ");
                test(s, 0);
            }
        }
        return s.toString();
    }

    private void sum(StringBuilder s) {
        value(s);
        for (int i = upTo(2); i > 0; i--) {
            s.append(blank()).append("+-*/%".charAt(upTo(4))).append(blank());
            value(s);
        }
    }

    private void value(StringBuilder s) {
        if (upTo(2) == 0) {
            s.append(upTo(9) == 0 ? upTo(120000) : upTo(9));
        } else {
            s.append(WORDS[random.nextInt(WORDS.length)]);
        }
    }

    private void test(StringBuilder s, int depth) {
        fact(s, depth);
        for (int i = upTo(3) - 1; i > 0; i--) {
            s.append(upTo(1) == 0 ? " and " : " or ");
            fact(s, depth);
        }
    }

    private void fact(StringBuilder s, int depth) {
        int dice = depth > 12 ? 9 : upTo(depth == 0 ? 5 : 4);
        if (dice == 0) {
            s.append("not ");
            fact(s, depth + 1);
        } else if (dice == 1) {
            s.append("[");
            test(s, depth + 1);
            s.append("]");
        } else {
            sum(s);
            s.append(blank()).append(new String[] {"<", "<=", "=", ">=", ">"}[upTo(4)]).append(blank());
            sum(s);
        }
    }

    private void call() {
        int p = near(0, Math.max(0, made.count(upTo(1) == 0 ? 1 : 3) - 1));
        switch (upTo(33)) {
            case 0, 1, 2, 3, 4 -> due("hour()", made.hour(), oracle.hour());
            case 5, 6 -> flag("sleep", p, upTo(2) > 0);
            case 7, 8 -> flag("light", p, upTo(1) > 0);
            case 9 -> due("undo()", made.undo(), oracle.undo());
            case 10 -> {
                int rule = near(-1, Math.max(0, made.count(5) - 1));
                due("force(" + rule + ")", made.force(rule), oracle.force(rule));
            }
            case 11 -> {
                int x = upTo(1) == 0 ? random.nextInt() : upTo(1000);
                due("seed(" + x + ")", made.seed(x), oracle.seed(x));
            }
            case 12 -> {
                int k = near(0, 3);
                due("image(" + k + ")", made.image(k), oracle.image(k));
            }
            case 13 -> {
                int k = near(0, 3);
                due("back(" + k + ")", made.back(k), oracle.back(k));
            }
            case 14 -> {
                if (upTo(3) == 0) {
                    tell(streetText(), true);
                } else if (upTo(1) == 0) {
                    tell(ruleText(), false);
                }
            }
            case 15, 16, 17 -> fact();
            default -> question(p);
        }
    }

    private void flag(String name, int number, boolean is) {
        boolean sleep = name.equals("sleep");
        boolean got = sleep ? made.sleep(number, is) : made.light(number, is);
        boolean want = sleep ? oracle.sleep(number, is) : oracle.light(number, is);
        due(name + "(" + number + ", " + is + ")", got ? 1 : 0, want ? 1 : 0);
    }

    private void fact() {
        int what = upTo(6) == 0 ? -1 : near(0, 5);
        int one = near(0, Math.max(0, made.count(1) - 1));
        int much = near(0, upTo(1) == 0 ? 300 : 20);
        int cost = near(0, upTo(1) == 0 ? 300 : 60);
        due("fact(" + what + ", " + one + ", " + much + ", " + cost + ")", made.fact(what, one, much, cost),
            oracle.fact(what, one, much, cost));
    }

    private void question(int p) {
        int n = near(1, upTo(1) == 0 ? 60 : 8);
        int q = near(-1, Math.max(0, made.count(1) - 1));
        int part = near(0, 1);
        int k = near(0, upTo(2) == 0 ? 10 : 4);
        int three = near(0, 2);
        switch (upTo(14)) {
            case 0 -> both("person", p, near(0, 5));
            case 1 -> both("lamp", p, three);
            case 2 -> both("owed", q, part);
            case 3 -> both("ahead", p, near(0, upTo(1) == 0 ? 100 : 10), three);
            case 4 -> both("cheap", p, k, three);
            case 5 -> both("rest", three);
            case 6 -> both("dark", part);
            case 7 -> both("guild", near(1, Math.max(1, (1 << made.count(1)) - 1)), k, three);
            case 8 -> both("slept", near(0, 3));
            case 9 -> both("ask", part);
            case 10 -> both("nights", p, near(1, 8), near(0, upTo(1) == 0 ? 99 : 20), near(-1, 7));
            case 11 -> both("turned", p, n, part);
            case 12 -> both("spite", near(0, Math.max(0, made.count(3) - 1)), q, n, part);
            case 13 -> both("lives", near(1, 10), n, near(0, 100), part);
            default -> both("count", near(0, 15));
        }
    }

    private void both(String name, int... a) {
        due(name + Arrays.toString(a), askMade(name, a), askOracle(name, a));
    }

    private int askMade(String name, int[] a) {
        return switch (name) {
            case "person" -> made.person(a[0], a[1]);
            case "lamp" -> made.lamp(a[0], a[1]);
            case "owed" -> made.owed(a[0], a[1]);
            case "ahead" -> made.ahead(a[0], a[1], a[2]);
            case "cheap" -> made.cheap(a[0], a[1], a[2]);
            case "rest" -> made.rest(a[0]);
            case "dark" -> made.dark(a[0]);
            case "guild" -> made.guild(a[0], a[1], a[2]);
            case "slept" -> made.slept(a[0]);
            case "ask" -> made.ask(a[0]);
            case "nights" -> made.nights(a[0], a[1], a[2], a[3]);
            case "turned" -> made.turned(a[0], a[1], a[2]);
            case "spite" -> made.spite(a[0], a[1], a[2], a[3]);
            case "lives" -> made.lives(a[0], a[1], a[2], a[3]);
            default -> made.count(a[0]);
        };
    }

    private int askOracle(String name, int[] a) {
        return switch (name) {
            case "person" -> oracle.person(a[0], a[1]);
            case "lamp" -> oracle.lamp(a[0], a[1]);
            case "owed" -> oracle.owed(a[0], a[1]);
            case "ahead" -> oracle.ahead(a[0], a[1], a[2]);
            case "cheap" -> oracle.cheap(a[0], a[1], a[2]);
            case "rest" -> oracle.rest(a[0]);
            case "dark" -> oracle.dark(a[0]);
            case "guild" -> oracle.guild(a[0], a[1], a[2]);
            case "slept" -> oracle.slept(a[0]);
            case "ask" -> oracle.ask(a[0]);
            case "nights" -> oracle.nights(a[0], a[1], a[2], a[3]);
            case "turned" -> oracle.turned(a[0], a[1], a[2]);
            case "spite" -> oracle.spite(a[0], a[1], a[2], a[3]);
            case "lives" -> oracle.lives(a[0], a[1], a[2], a[3]);
            default -> oracle.count(a[0]);
        };
    }
}
