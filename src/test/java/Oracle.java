import java.math.BigInteger;
import java.util.ArrayDeque;
import java.util.ArrayList;
import java.util.Arrays;
import java.util.HashMap;
import java.util.List;
import java.util.Map;
import java.util.function.ToLongFunction;

/**
 * The document once more, in its slowest form: texts are read into functions,
 * every choice is made by trying all sets and rows, and what is owed is a
 * fraction of big numbers. OracleTests asks it and SleepersPay the same.
 */
final class Oracle {
    static final class Fault extends RuntimeException {
        final int number;

        Fault(int place, int kind) {
            number = 1 + 8 * place + kind;
        }
    }

    record Frac(BigInteger above, BigInteger below) {
        static final Frac ZERO = of(0, 1);

        static Frac of(long a, long b) {
            return make(BigInteger.valueOf(a), BigInteger.valueOf(b));
        }

        static Frac make(BigInteger a, BigInteger b) {
            BigInteger g = a.gcd(b);
            return new Frac(a.divide(g), b.divide(g));
        }

        Frac plus(Frac o) {
            return make(above.multiply(o.below).add(o.above.multiply(below)), below.multiply(o.below));
        }

        Frac minus(Frac o) {
            return plus(new Frac(o.above.negate(), o.below));
        }

        int compare(Frac o) {
            return above.multiply(o.below).compareTo(o.above.multiply(below));
        }

        int part(int part) {
            return (part == 0 ? above : below).intValueExact();
        }
    }

    record Person(int need, int worth) { }

    record Lamp(int whose, int cost) { }

    record Span(int who, int first, int last) { }

    static final class Town {
        int hours;
        final List<Person> people = new ArrayList<>();
        final List<Lamp> lamps = new ArrayList<>();
        final List<Span> works = new ArrayList<>();
        final List<Span> lits = new ArrayList<>();

        boolean works(int p, int h) {
            return works.stream().anyMatch(w -> w.who == p && w.first <= h && h <= w.last);
        }

        boolean told(int l, int h) {
            return lits.stream().anyMatch(w -> w.who == l && w.first <= h && h <= w.last);
        }
    }

    static final class State {
        int hour;
        int night;
        boolean[] asleep;
        int[] slept;
        int[] debt;
        Frac[] owed;
        /** What each would owe, if those who wake had shared each COST. */
        Frac[] ifWakingPaid;
        Map<Integer, Boolean> byAct = new HashMap<>();

        State(int people) {
            asleep = new boolean[people];
            slept = new int[people];
            debt = new int[people];
            owed = new Frac[people + 1];
            Arrays.fill(owed, Frac.ZERO);
            ifWakingPaid = owed.clone();
        }

        State copy() {
            State s = new State(asleep.length);
            s.hour = hour;
            s.night = night;
            s.asleep = asleep.clone();
            s.slept = slept.clone();
            s.debt = debt.clone();
            s.owed = owed.clone();
            s.ifWakingPaid = ifWakingPaid.clone();
            s.byAct = new HashMap<>(byAct);
            return s;
        }
    }

    /** What a WORD is asked of. */
    record View(Town town, State state, int person) { }

    record Clause(ToLongFunction<View> sum, ToLongFunction<View> test) { }

    record Image(Town town, State state, List<int[]> facts, int force, int x) { }

    private byte[] tape = new byte[0];
    private Town town;
    private State state = new State(0);
    private List<int[]> facts = new ArrayList<>();
    private final List<List<Clause>> rules = new ArrayList<>();
    private int force = -1;
    private int x;
    private final ArrayDeque<State> acts = new ArrayDeque<>();
    private final Image[] images = new Image[4];

    // ---- texts

    static final class Reader {
        final byte[] text;
        int at;
        int counted;

        Reader(byte[] text) {
            this.text = text;
        }

        void blanks() {
            while (at < text.length && text[at] == 32) {
                at++;
            }
        }

        String peek() {
            blanks();
            if (at == text.length) {
                return "";
            }
            int to = at;
            if (digit(text[at])) {
                while (to < text.length && digit(text[to])) {
                    to++;
                }
            } else if (small(text[at])) {
                while (to < text.length && small(text[to])) {
                    to++;
                }
            } else {
                to++;
                if ((text[at] == '<' || text[at] == '>') && to < text.length && text[to] == '=') {
                    to++;
                }
            }
            return new String(text, at, to - at, java.nio.charset.StandardCharsets.ISO_8859_1);
        }

        static boolean digit(byte b) {
            return b >= '0' && b <= '9';
        }

        static boolean small(byte b) {
            return b >= 'a' && b <= 'z';
        }

        void next() {
            at += peek().length();
        }

        boolean is(String s) {
            return peek().equals(s);
        }

        Fault fault(int kind) {
            blanks();
            return new Fault(at, kind);
        }

        int number(int low, int high) {
            String s = peek();
            if (s.isEmpty() || !digit((byte) s.charAt(0))) {
                throw fault(0);
            }
            if (s.length() > 5 || Integer.parseInt(s) < low || Integer.parseInt(s) > high) {
                throw fault(1);
            }
            next();
            return Integer.parseInt(s);
        }

        Town town() {
            Town t = new Town();
            int clauses = 0;
            while (true) {
                String word = peek();
                if (!List.of("street", "person", "work", "lamp", "lit").contains(word)) {
                    throw fault(0);
                }
                if (++clauses > 40 || word.equals("street") && clauses > 1 || !word.equals("street") && clauses == 1
                    || word.equals("person") && t.people.size() == 5 || word.equals("lamp") && t.lamps.size() == 5
                    || word.equals("work") && t.works.size() == 8 || word.equals("lit") && t.lits.size() == 8) {
                    throw fault(4);
                }
                next();
                switch (word) {
                    case "street" -> t.hours = number(2, 10);
                    case "person" -> t.people.add(new Person(number(0, t.hours), number(0, 60)));
                    case "lamp" -> t.lamps.add(new Lamp(whose(t), number(1, 60)));
                    case "work" -> t.works.add(span(t.people.size(), t.hours));
                    default -> t.lits.add(span(t.lamps.size(), t.hours));
                }
                if (is("")) {
                    return t;
                }
                if (!is(";")) {
                    throw fault(0);
                }
                next();
            }
        }

        int whose(Town t) {
            String s = peek();
            boolean nine = s.matches("0*9") && s.length() <= 5;
            return number(0, nine ? 9 : t.people.size() - 1);
        }

        Span span(int told, int hours) {
            int who = number(0, told - 1);
            int first = number(0, hours - 1);
            return new Span(who, first, number(first, hours - 1));
        }

        List<Clause> rule() {
            List<Clause> clauses = new ArrayList<>();
            while (true) {
                if (!is("sleep")) {
                    throw fault(0);
                }
                if (clauses.size() == 12) {
                    throw fault(4);
                }
                next();
                ToLongFunction<View> sum = sum();
                ToLongFunction<View> test = v -> 1;
                if (is("if")) {
                    next();
                    test = test(0);
                }
                clauses.add(new Clause(sum, test));
                if (is("")) {
                    return clauses;
                }
                if (!is(";")) {
                    throw fault(0);
                }
                next();
            }
        }

        ToLongFunction<View> test(int depth) {
            ToLongFunction<View> left = part(depth);
            while (is("or")) {
                next();
                ToLongFunction<View> a = left;
                ToLongFunction<View> b = part(depth);
                left = v -> a.applyAsLong(v) == 1 || b.applyAsLong(v) == 1 ? 1 : 0;
            }
            return left;
        }

        ToLongFunction<View> part(int depth) {
            ToLongFunction<View> left = fact(depth);
            while (is("and")) {
                next();
                ToLongFunction<View> a = left;
                ToLongFunction<View> b = fact(depth);
                left = v -> a.applyAsLong(v) == 1 && b.applyAsLong(v) == 1 ? 1 : 0;
            }
            return left;
        }

        ToLongFunction<View> fact(int depth) {
            if (is("not") || is("[")) {
                if (depth == 10) {
                    throw fault(2);
                }
                boolean not = is("not");
                next();
                if (not) {
                    ToLongFunction<View> a = fact(depth + 1);
                    return v -> a.applyAsLong(v) == 1 ? 0 : 1;
                }
                ToLongFunction<View> a = test(depth + 1);
                if (!is("]")) {
                    throw fault(0);
                }
                next();
                return a;
            }
            ToLongFunction<View> a = sum();
            String sign = peek();
            if (!List.of("<", "<=", "=", ">=", ">").contains(sign)) {
                throw fault(0);
            }
            if (++counted > 60) {
                throw fault(3);
            }
            next();
            ToLongFunction<View> b = sum();
            return v -> {
                int c = Long.compare(a.applyAsLong(v), b.applyAsLong(v));
                return switch (sign) {
                    case "<" -> c < 0;
                    case "<=" -> c <= 0;
                    case "=" -> c == 0;
                    case ">=" -> c >= 0;
                    default -> c > 0;
                } ? 1 : 0;
            };
        }

        ToLongFunction<View> sum() {
            ToLongFunction<View> left = term();
            while (is("+") || is("-")) {
                boolean plus = is("+");
                next();
                ToLongFunction<View> a = left;
                ToLongFunction<View> b = term();
                left = v -> plus ? a.applyAsLong(v) + b.applyAsLong(v) : a.applyAsLong(v) - b.applyAsLong(v);
            }
            return left;
        }

        ToLongFunction<View> term() {
            ToLongFunction<View> left = value();
            while (is("*") || is("/") || is("%")) {
                String sign = peek();
                next();
                ToLongFunction<View> a = left;
                ToLongFunction<View> b = value();
                left = v -> {
                    long l = a.applyAsLong(v);
                    long r = b.applyAsLong(v);
                    if (sign.equals("*")) {
                        return l * r;
                    }
                    return r == 0 ? 0 : sign.equals("/") ? l / r : l % r;
                };
            }
            return left;
        }

        ToLongFunction<View> value() {
            String s = peek();
            if (s.matches("[0-9]+")) {
                if (s.length() > 5) {
                    throw fault(1);
                }
            } else if (!List.of("person", "hour", "night", "need", "worth", "slept", "left", "cost", "others",
                "asleep", "owed", "debt", "own").contains(s)) {
                throw fault(0);
            }
            if (++counted > 60) {
                throw fault(3);
            }
            next();
            return s.matches("[0-9]+") ? v -> Long.parseLong(s) : v -> word(s, v);
        }
    }

    static long word(String s, View v) {
        State t = v.state;
        int p = v.person;
        switch (s) {
            case "person": return p;
            case "hour": return t.hour;
            case "night": return t.night;
            case "need": return v.town.people.get(p).need;
            case "worth": return v.town.people.get(p).worth;
            case "slept": return t.slept[p];
            case "left": return v.town.hours - t.hour;
            case "cost": return cost(v.town, t, t.hour, -1);
            case "others": {
                int many = 0;
                for (int q = 0; q < t.asleep.length; q++) {
                    many += q != p && t.asleep[q] ? 1 : 0;
                }
                return many;
            }
            case "asleep": return t.asleep[p] ? 1 : 0;
            case "owed": return t.owed[p].above.divide(t.owed[p].below).longValueExact();
            case "debt": return t.debt[p];
            default: return cost(v.town, t, t.hour, p);
        }
    }

    static boolean burns(Town town, State s, int lamp, int hour) {
        Boolean act = s.byAct.get(lamp);
        return act != null ? act : town.told(lamp, hour);
    }

    /** Of all LAMPS, or of those of one. */
    static int cost(Town town, State s, int hour, int owner) {
        int sum = 0;
        for (int l = 0; l < town.lamps.size(); l++) {
            if (burns(town, s, l, hour) && (owner < 0 || town.lamps.get(l).whose == owner)) {
                sum += town.lamps.get(l).cost;
            }
        }
        return sum;
    }

    static int play(Town town, State s, List<Clause> rule) {
        int n = town.people.size();
        for (int p = 0; p < n; p++) {
            if (town.works(p, s.hour)) {
                s.asleep[p] = false;
            }
        }
        for (int p = 0; p < n && rule != null; p++) {
            if (town.works(p, s.hour)) {
                continue;
            }
            long answer = 0;
            for (Clause c : rule) {
                View v = new View(town, s, p);
                if (c.test.applyAsLong(v) == 1) {
                    answer = c.sum.applyAsLong(v);
                    break;
                }
            }
            s.asleep[p] = answer > 0;
        }
        List<Integer> sleepers = new ArrayList<>();
        List<Integer> wakers = new ArrayList<>();
        for (int p = 0; p < n; p++) {
            s.slept[p] += s.asleep[p] ? 1 : 0;
            (s.asleep[p] ? sleepers : wakers).add(p);
        }
        int cost = cost(town, s, s.hour, -1);
        share(s.owed, sleepers, cost);
        share(s.ifWakingPaid, wakers, cost);
        s.hour++;
        if (s.hour == town.hours) {
            s.hour = 0;
            s.night = Math.min(999, s.night + 1);
            s.byAct.clear();
            for (int p = 0; p < n; p++) {
                s.debt[p] = Math.min(999, Math.max(0, s.debt[p] + town.people.get(p).need - s.slept[p]));
                s.slept[p] = 0;
                s.asleep[p] = false;
            }
        }
        return sleepers.size();
    }

    /** The last of what is owed is the town's. */
    private static void share(Frac[] owed, List<Integer> payers, int cost) {
        for (int p : payers) {
            owed[p] = owed[p].plus(Frac.of(cost, payers.size()));
        }
        if (payers.isEmpty()) {
            owed[owed.length - 1] = owed[owed.length - 1].plus(Frac.of(cost, 1));
        }
    }

    // ---- the face

    int feed(int... numbers) {
        if (tape.length + 20 > 400) {
            return -1;
        }
        int at = tape.length;
        tape = Arrays.copyOf(tape, at + 20);
        java.nio.ByteBuffer b = java.nio.ByteBuffer.wrap(tape);
        b.position(at);
        for (int n : numbers) {
            b.putInt(n);
        }
        return tape.length;
    }

    int end(int n) {
        if (n < 0 || n > tape.length) {
            return -1;
        }
        tape = Arrays.copyOf(tape, n);
        return n;
    }

    int street() {
        byte[] told = tape;
        tape = new byte[0];
        try {
            town = new Reader(told).town();
        } catch (Fault f) {
            return -2 - f.number;
        }
        state = new State(town.people.size());
        facts = new ArrayList<>();
        acts.clear();
        return town.people.size();
    }

    int rule() {
        if (rules.size() == 6) {
            return -1;
        }
        byte[] told = tape;
        tape = new byte[0];
        try {
            rules.add(new Reader(told).rule());
        } catch (Fault f) {
            return -2 - f.number;
        }
        return rules.size() - 1;
    }

    int force(int rule) {
        if (rule < -1 || rule >= rules.size()) {
            return -2;
        }
        int was = force;
        force = rule;
        return was;
    }

    private boolean isPerson(int p) {
        return town != null && p >= 0 && p < town.people.size();
    }

    private boolean isLamp(int l) {
        return town != null && l >= 0 && l < town.lamps.size();
    }

    private List<Clause> inForce() {
        return force < 0 ? null : rules.get(force);
    }

    int person(int p, int what) {
        if (!isPerson(p)) {
            return -1;
        }
        return switch (what) {
            case 0 -> town.people.get(p).need;
            case 1 -> town.people.get(p).worth;
            case 2 -> state.asleep[p] ? 1 : 0;
            case 3 -> state.slept[p];
            case 4 -> state.debt[p];
            case 5 -> town.works(p, state.hour) ? 1 : 0;
            default -> -1;
        };
    }

    int lamp(int l, int what) {
        if (!isLamp(l)) {
            return -1;
        }
        return switch (what) {
            case 0 -> town.lamps.get(l).whose;
            case 1 -> town.lamps.get(l).cost;
            case 2 -> burns(town, state, l, state.hour) ? 1 : 0;
            default -> -1;
        };
    }

    private void act() {
        acts.addLast(state.copy());
        if (acts.size() > 20) {
            acts.removeFirst();
        }
    }

    int hour() {
        if (town == null || state.night == 999 && state.hour == town.hours - 1) {
            return -1;
        }
        act();
        return play(town, state, inForce());
    }

    boolean sleep(int p, boolean is) {
        if (!isPerson(p) || state.asleep[p] == is || is && town.works(p, state.hour)) {
            return false;
        }
        act();
        state.asleep[p] = is;
        return true;
    }

    boolean light(int l, boolean is) {
        if (!isLamp(l) || burns(town, state, l, state.hour) == is) {
            return false;
        }
        act();
        state.byAct.put(l, is);
        return true;
    }

    int undo() {
        if (acts.isEmpty()) {
            return -1;
        }
        state = acts.removeLast();
        return acts.size();
    }

    int owed(int p, int part) {
        if (town == null || p < -1 || p >= town.people.size() || part < 0 || part > 1) {
            return -1;
        }
        return state.owed[p < 0 ? town.people.size() : p].part(part);
    }

    int ahead(int p, int n, int what) {
        if (!isPerson(p) || n < 0 || n > 100 || what < 0 || what > 2) {
            return -1;
        }
        State s = state.copy();
        for (int i = 0; i < n; i++) {
            play(town, s, inForce());
        }
        return what == 0 ? (s.asleep[p] ? 1 : 0) : what == 1 ? s.slept[p] : s.debt[p];
    }

    int cheap(int p, int k, int what) {
        return isPerson(p) ? guild(1 << p, k, what) : -1;
    }

    int guild(int set, int k, int what) {
        if (town == null || set < 1 || set >= 1 << town.people.size() || k < 0 || k > 10 || what < 0 || what > 2) {
            return -1;
        }
        int bestSet = -2;
        Frac best = Frac.ZERO;
        for (int hours = 0; hours < 1 << town.hours; hours++) {
            if (Integer.bitCount(hours) != k) {
                continue;
            }
            Frac sum = Frac.ZERO;
            boolean fits = true;
            for (int h = 0; h < town.hours && fits; h++) {
                if ((hours >> h & 1) == 0) {
                    continue;
                }
                fits = h >= state.hour;
                int sleepers = 0;
                for (int p = 0; p < town.people.size(); p++) {
                    boolean in = (set >> p & 1) == 1;
                    sleepers += in || state.asleep[p] ? 1 : 0;
                    fits &= !in || !town.works(p, h);
                }
                for (int p = 0; p < town.people.size(); p++) {
                    if ((set >> p & 1) == 1) {
                        sum = sum.plus(Frac.of(cost(town, state, h, -1), sleepers));
                    }
                }
            }
            if (fits && (bestSet == -2 || sum.compare(best) < 0)) {
                bestSet = hours;
                best = sum;
            }
        }
        return bestSet == -2 ? -2 : what == 0 ? bestSet : best.part(what - 1);
    }

    private List<Integer> restSets() {
        List<Integer> sets = new ArrayList<>();
        int n = town.people.size();
        int cost = cost(town, state, state.hour, -1);
        for (int set = 0; set < 1 << n; set++) {
            boolean ok = true;
            for (int p = 0; p < n; p++) {
                boolean in = (set >> p & 1) == 1;
                int many = Integer.bitCount(set | 1 << p);
                int pays = Frac.of(cost, many).compare(Frac.of(town.people.get(p).worth, 1));
                if (town.works(p, state.hour)) {
                    ok &= !in;
                } else {
                    ok &= in ? pays <= 0 : pays >= 0;
                }
            }
            if (ok) {
                sets.add(set);
            }
        }
        return sets;
    }

    int rest(int what) {
        if (town == null || what < 0 || what > 2) {
            return -1;
        }
        List<Integer> sets = restSets();
        if (what == 0) {
            return sets.size();
        }
        return sets.isEmpty() ? -2 : sets.get(what == 1 ? 0 : sets.size() - 1);
    }

    int dark(int what) {
        if (town == null || what < 0 || what > 1) {
            return -1;
        }
        for (int many = 0; many <= 5; many++) {
            for (int set = 0; set < 32; set++) {
                if (Integer.bitCount(set) == many && darkEnough(set)) {
                    return what == 0 ? many : set;
                }
            }
        }
        throw new IllegalStateException();
    }

    private boolean darkEnough(int out) {
        int cost = 0;
        for (int l = 0; l < 5; l++) {
            boolean burns = l < town.lamps.size() && burns(town, state, l, state.hour);
            if (!burns && (out >> l & 1) == 1) {
                return false;
            }
            cost += burns && (out >> l & 1) == 0 ? town.lamps.get(l).cost : 0;
        }
        int sleepers = 0;
        int least = 1000;
        for (int p = 0; p < town.people.size(); p++) {
            if (!town.works(p, state.hour)) {
                sleepers++;
                least = Math.min(least, town.people.get(p).worth);
            }
        }
        return sleepers == 0 || Frac.of(cost, sleepers).compare(Frac.of(least, 1)) <= 0;
    }

    int fact(int what, int one, int much, int cost) {
        if (what == -1) {
            facts.clear();
            return 0;
        }
        if (town == null) {
            return -2;
        }
        boolean ok = switch (what) {
            case 0, 1 -> isPerson(one);
            case 2, 3 -> one >= 0 && one <= 5;
            case 4, 5 -> isPerson(one) && much >= 0 && much <= 300 && cost >= 0 && cost <= 300;
            default -> false;
        };
        if (!ok || facts.size() == 10) {
            return -2;
        }
        facts.add(new int[] {what, one, much, cost});
        return facts.size();
    }

    private List<Integer> sleptSets() {
        List<Integer> sets = new ArrayList<>();
        for (int set = 0; set < 1 << town.people.size(); set++) {
            boolean ok = true;
            int many = Integer.bitCount(set);
            for (int[] f : facts) {
                boolean in = (set >> f[1] & 1) == 1;
                ok &= switch (f[0]) {
                    case 0 -> in;
                    case 1 -> !in;
                    case 2 -> many >= f[1];
                    case 3 -> many <= f[1];
                    case 4 -> in && Frac.of(f[3], many).compare(Frac.of(f[2], 1)) <= 0;
                    default -> in && Frac.of(f[3], many).compare(Frac.of(f[2], 1)) > 0;
                };
            }
            if (ok) {
                sets.add(set);
            }
        }
        return sets;
    }

    int slept(int what) {
        if (town == null || what < 0 || what > 3) {
            return -1;
        }
        List<Integer> sets = sleptSets();
        if (what == 0) {
            return sets.size();
        }
        if (sets.isEmpty()) {
            return what == 1 ? -2 : 0;
        }
        int bits = 0;
        for (int p = 0; p < town.people.size(); p++) {
            int q = p;
            boolean all = sets.stream().allMatch(s -> (s >> q & 1) == 1);
            boolean none = sets.stream().noneMatch(s -> (s >> q & 1) == 1);
            bits |= (what == 2 ? all : none) ? 1 << p : 0;
        }
        return what == 1 ? sets.get(0) : bits;
    }

    int ask(int what) {
        if (town == null || what < 0 || what > 1) {
            return -1;
        }
        List<Integer> sets = sleptSets();
        int who = -2;
        int many = -2;
        for (int p = 0; p < town.people.size() && !sets.isEmpty(); p++) {
            int q = p;
            int with = (int) sets.stream().filter(s -> (s >> q & 1) == 1).count();
            int greater = Math.max(with, sets.size() - with);
            if (who < 0 || greater < many) {
                who = p;
                many = greater;
            }
        }
        return what == 0 ? who : many;
    }

    int nights(int p, int n, int bound, int what) {
        if (!isPerson(p) || n < 1 || n > 8 || bound < 0 || bound > 99 || what < -1 || what > 7) {
            return -3;
        }
        int need = town.people.get(p).need;
        List<Integer> costs = new ArrayList<>();
        State fresh = new State(0);
        for (int h = 0; h < town.hours; h++) {
            if (!town.works(p, h)) {
                costs.add(cost(town, fresh, h, -1));
            }
        }
        costs.sort(null);
        int[] best = {Integer.MAX_VALUE};
        int[] bestRow = new int[n];
        rows(new int[n], 0, 0, state.debt[p] + n * need, bound, Math.min(need, costs.size()), costs, best, bestRow);
        if (best[0] == Integer.MAX_VALUE || what >= n) {
            return -2;
        }
        return what < 0 ? best[0] : bestRow[what];
    }

    /** All rows in their order; a dearer beginning is left out, as costs are never below 0. */
    private static void rows(int[] row, int at, int cost, int debt, int bound, int most, List<Integer> costs,
        int[] best, int[] bestRow) {
        if (cost >= best[0] || debt - (row.length - at) * most > bound) {
            return;
        }
        if (at == row.length) {
            best[0] = cost;
            System.arraycopy(row, 0, bestRow, 0, row.length);
            return;
        }
        int more = 0;
        for (int s = 0; s <= most; s++) {
            row[at] = s;
            rows(row, at + 1, cost + more, debt - s, bound, most, costs, best, bestRow);
            more += s < costs.size() ? costs.get(s) : 0;
        }
    }

    private State after(State s, int n) {
        for (int i = 0; i < n; i++) {
            play(town, s, inForce());
        }
        return s;
    }

    int turned(int p, int n, int part) {
        if (!isPerson(p) || n < 1 || n > 60 || part < 0 || part > 1) {
            return -1000000;
        }
        State then = after(state.copy(), n);
        Frac would = then.ifWakingPaid[p].minus(state.ifWakingPaid[p]);
        return would.minus(then.owed[p].minus(state.owed[p])).part(part);
    }

    int spite(int l, int p, int n, int part) {
        if (!isLamp(l) || p != -1 && !isPerson(p) || n < 1 || n > 60 || part < 0 || part > 1) {
            return -1000000;
        }
        State lit = state.copy();
        lit.byAct.put(l, true);
        State out = state.copy();
        out.byAct.put(l, false);
        int who = p < 0 ? town.people.size() : p;
        return after(lit, n).owed[who].minus(after(out, n).owed[who]).part(part);
    }

    int seed(int number) {
        if (number < 0) {
            return -1;
        }
        int was = x;
        x = number;
        return was;
    }

    int lives(int m, int n, int p, int what) {
        if (town == null || m < 1 || m > 10 || n < 1 || n > 60 || p < 0 || p > 100 || what < 0 || what > 1) {
            return -1;
        }
        BigInteger drawn = BigInteger.valueOf(x);
        int hours = 0;
        int costs = 0;
        for (int life = 0; life < m; life++) {
            State s = state.copy();
            for (int i = 0; i < n; i++) {
                for (int q = 0; q < town.people.size(); q++) {
                    if (!town.works(q, s.hour)) {
                        drawn = drawn.multiply(BigInteger.valueOf(1103515245)).add(BigInteger.valueOf(12345))
                            .mod(BigInteger.ONE.shiftLeft(31));
                        s.asleep[q] = drawn.shiftRight(16).intValue() % 100 < p;
                    }
                }
                int cost = cost(town, s, s.hour, -1);
                int many = play(town, s, null);
                hours += many;
                costs += many == 0 ? cost : 0;
            }
        }
        return what == 0 ? hours : costs;
    }

    int count(int what) {
        if (what < 0 || what > 15) {
            return -1;
        }
        switch (what) {
            case 5: return rules.size();
            case 6: return force;
            case 13: return acts.size();
            case 14: return x;
            case 15: return tape.length;
            default: break;
        }
        if (town == null) {
            return 0;
        }
        int asleep = 0;
        for (int p = 0; p < town.people.size(); p++) {
            asleep |= state.asleep[p] ? 1 << p : 0;
        }
        int burning = 0;
        for (int l = 0; l < town.lamps.size(); l++) {
            burning |= burns(town, state, l, state.hour) ? 1 << l : 0;
        }
        return switch (what) {
            case 0 -> town.hours;
            case 1 -> town.people.size();
            case 2 -> town.works.size();
            case 3 -> town.lamps.size();
            case 4 -> town.lits.size();
            case 7 -> state.hour;
            case 8 -> state.night;
            case 9 -> asleep;
            case 10 -> burning;
            case 11 -> cost(town, state, state.hour, -1);
            default -> facts.size();
        };
    }

    int image(int k) {
        if (k < 0 || k > 3) {
            return -1;
        }
        images[k] = new Image(town, state.copy(), new ArrayList<>(facts), force, x);
        return state.night;
    }

    int back(int k) {
        if (k < 0 || k > 3 || images[k] == null) {
            return -1;
        }
        town = images[k].town;
        state = images[k].state.copy();
        facts = new ArrayList<>(images[k].facts);
        force = images[k].force;
        x = images[k].x;
        acts.clear();
        return state.night;
    }
}
