/**
 * A street whose sleepers pay for the light: who sleeps in each hour shares the
 * cost of the lamps that burn in it. The words in capitals are the document's.
 */
public final class SleepersPay {
    public static final int NONE = -1;

    private static final int ABSENT = -2;
    private static final int NO_NIGHTS = -3;
    private static final int NO_FRACTION = -1000000;

    private static final int MOST_PEOPLE = 5;
    private static final int MOST_LAMPS = 5;
    private static final int MOST_HOURS = 10;
    private static final int MOST_FACTS = 10;
    private static final int MOST_RULES = 6;
    private static final int MOST_IMAGES = 4;
    private static final int TOWN = MOST_PEOPLE;

    /** One to five share a COST, so every share is a whole number of sixtieths. */
    private static final int SIXTIETHS = 60;

    private final Text tape = new Text();
    private final StreetReader streetReader = new StreetReader(tape);
    private final RuleReader ruleReader = new RuleReader(tape);
    private final Street draft = new Street();
    private final Rule[] rules = new Rule[MOST_RULES];
    private int ruleCount = 0;
    private final Scene now = new Scene();
    private final Scene[] images = new Scene[MOST_IMAGES];
    private final Acts acts = new Acts();
    private final Player player = new Player();
    private final Moment trial = new Moment();
    private final int[] hourCosts = new int[MOST_HOURS];
    private final int[] nightCosts = new int[MOST_HOURS + 1];

    public SleepersPay() {
        for (int k = 0; k < MOST_IMAGES; k++) {
            images[k] = new Scene();
        }
    }

    public int feed(int a, int b, int c, int d, int e) {
        if (!tape.hasRoom(20)) {
            return NONE;
        }
        tape.append(a);
        tape.append(b);
        tape.append(c);
        tape.append(d);
        tape.append(e);
        return tape.length;
    }

    public int end(int n) {
        if (n < 0 || n > tape.length) {
            return NONE;
        }
        tape.length = n;
        return n;
    }

    public int street() {
        int fault = streetReader.readInto(draft);
        tape.length = 0;
        if (fault != 0) {
            return -2 - fault;
        }
        now.street.copyOf(draft);
        now.moment.clear();
        now.facts.clear();
        acts.clear();
        return now.street.people;
    }

    public int rule() {
        if (ruleCount >= MOST_RULES) {
            return NONE;
        }
        int fault = ruleReader.readText();
        tape.length = 0;
        if (fault != 0) {
            return -2 - fault;
        }
        rules[ruleCount] = ruleReader.made();
        ruleCount++;
        return ruleCount - 1;
    }

    public int force(int rule) {
        if (rule < NONE || rule >= ruleCount) {
            return ABSENT;
        }
        int was = now.ruleInForce;
        now.ruleInForce = rule;
        return was;
    }

    public int person(int person, int what) {
        if (!now.street.isPerson(person)) {
            return NONE;
        }
        switch (what) {
            case 0: return now.street.need[person];
            case 1: return now.street.worth[person];
            case 2: return bitOf(now.moment.asleep, person);
            case 3: return now.moment.hoursSlept[person];
            case 4: return now.moment.debt[person];
            case 5: return bitOf(workersNow(), person);
            default: return NONE;
        }
    }

    public int lamp(int lamp, int what) {
        if (!now.street.isLamp(lamp)) {
            return NONE;
        }
        switch (what) {
            case 0: return now.street.owner[lamp];
            case 1: return now.street.lampCost[lamp];
            case 2: return bitOf(burningNow(), lamp);
            default: return NONE;
        }
    }

    public int hour() {
        if (!now.street.isTold() || now.moment.isLast(now.street)) {
            return NONE;
        }
        acts.keep(now.moment);
        return player.play(now.street, now.moment, ruleNow());
    }

    public boolean sleep(int person, boolean is) {
        if (!now.street.isPerson(person)) {
            return false;
        }
        boolean asleep = bitOf(now.moment.asleep, person) == 1;
        boolean works = bitOf(workersNow(), person) == 1;
        if (asleep == is || (is && works)) {
            return false;
        }
        acts.keep(now.moment);
        now.moment.asleep ^= 1 << person;
        return true;
    }

    public boolean light(int lamp, boolean is) {
        if (!now.street.isLamp(lamp)) {
            return false;
        }
        boolean burns = bitOf(burningNow(), lamp) == 1;
        if (burns == is) {
            return false;
        }
        acts.keep(now.moment);
        now.moment.setLamp(lamp, is);
        return true;
    }

    public int undo() {
        return acts.takeBack(now.moment) ? acts.size : NONE;
    }

    public int owed(int person, int part) {
        if (!isDebtor(person) || !isPart(part)) {
            return NONE;
        }
        return fraction(now.moment.owed[debtorRow(person)], SIXTIETHS, part);
    }

    public int ahead(int person, int n, int what) {
        if (!now.street.isPerson(person) || n < 0 || n > 100) {
            return NONE;
        }
        if (what < 0 || what > 2) {
            return NONE;
        }
        trial.copyOf(now.moment);
        playTrial(n);
        if (what == 0) {
            return bitOf(trial.asleep, person);
        }
        return what == 1 ? trial.hoursSlept[person] : trial.debt[person];
    }

    public int cheap(int person, int k, int what) {
        if (!now.street.isPerson(person)) {
            return NONE;
        }
        return sleepTogether(1 << person, k, what);
    }

    public int rest(int what) {
        if (!now.street.isTold() || what < 0 || what > 2) {
            return NONE;
        }
        int free = now.street.everyone() & ~workersNow();
        int cost = now.street.costOf(burningNow());
        int many = 0;
        int least = ABSENT;
        int greatest = ABSENT;
        for (int set = 0; set <= free; set++) {
            if ((set & ~free) == 0 && isAtRest(set, free, cost)) {
                many++;
                least = least == ABSENT ? set : least;
                greatest = set;
            }
        }
        if (what == 0) {
            return many;
        }
        return what == 1 ? least : greatest;
    }

    public int dark(int what) {
        if (!now.street.isTold() || what < 0 || what > 1) {
            return NONE;
        }
        int burning = burningNow();
        int best = burning;
        for (int out = 0; out < burning; out++) {
            boolean fewer = Integer.bitCount(out) < Integer.bitCount(best);
            if ((out & ~burning) == 0 && fewer && allCouldSleep(burning & ~out)) {
                best = out;
            }
        }
        return what == 0 ? Integer.bitCount(best) : best;
    }

    public int guild(int people, int k, int what) {
        if (!now.street.isTold() || people <= 0 || people > now.street.everyone()) {
            return NONE;
        }
        return sleepTogether(people, k, what);
    }

    public int fact(int what, int one, int much, int cost) {
        if (what == NONE) {
            now.facts.clear();
            return 0;
        }
        if (!now.street.isTold()) {
            return ABSENT;
        }
        if (!isFact(what, one, much, cost) || !now.facts.add(what, one, much, cost)) {
            return ABSENT;
        }
        return now.facts.size;
    }

    public int slept(int what) {
        if (!now.street.isTold() || what < 0 || what > 3) {
            return NONE;
        }
        int everyone = now.street.everyone();
        int least = ABSENT;
        int inAll = everyone;
        int inSome = 0;
        for (int set = 0; set <= everyone; set++) {
            if (now.facts.allow(set)) {
                least = least == ABSENT ? set : least;
                inAll &= set;
                inSome |= set;
            }
        }
        switch (what) {
            case 0: return setsWith(0);
            case 1: return least;
            case 2: return least == ABSENT ? 0 : inAll;
            default: return least == ABSENT ? 0 : everyone & ~inSome;
        }
    }

    public int ask(int what) {
        if (!now.street.isTold() || what < 0 || what > 1) {
            return NONE;
        }
        int all = setsWith(0);
        int who = ABSENT;
        int fewest = ABSENT;
        for (int person = 0; person < now.street.people && all > 0; person++) {
            int with = setsWith(1 << person);
            int greater = Math.max(with, all - with);
            if (who == ABSENT || greater < fewest) {
                who = person;
                fewest = greater;
            }
        }
        return what == 0 ? who : fewest;
    }

    public int nights(int person, int n, int bound, int what) {
        if (!now.street.isPerson(person) || n < 1 || n > 8) {
            return NO_NIGHTS;
        }
        if (bound < 0 || bound > 99 || what < NONE || what > 7) {
            return NO_NIGHTS;
        }
        int most = priceNight(person);
        int wanted = Math.max(0, now.moment.debt[person] + n * now.street.need[person] - bound);
        if (wanted > n * most || what >= n) {
            return ABSENT;
        }
        return what == NONE ? evenCost(n, wanted) : sleepInNight(n, wanted, most, what);
    }

    public int turned(int person, int n, int part) {
        if (!now.street.isPerson(person) || !isSpan(n) || !isPart(part)) {
            return NO_FRACTION;
        }
        trial.copyOf(now.moment);
        long would = 0;
        for (int i = 0; i < n; i++) {
            player.play(now.street, trial, ruleNow());
            would += player.shareIfWakingPaid(now.street, person);
        }
        long does = trial.owed[person] - now.moment.owed[person];
        return fraction(would - does, SIXTIETHS, part);
    }

    public int spite(int lamp, int person, int n, int part) {
        if (!now.street.isLamp(lamp) || !isDebtor(person) || !isSpan(n) || !isPart(part)) {
            return NO_FRACTION;
        }
        int row = debtorRow(person);
        trial.copyOf(now.moment);
        trial.setLamp(lamp, true);
        playTrial(n);
        long lit = trial.owed[row];
        trial.copyOf(now.moment);
        trial.setLamp(lamp, false);
        playTrial(n);
        return fraction(lit - trial.owed[row], SIXTIETHS, part);
    }

    public int seed(int x) {
        if (x < 0) {
            return NONE;
        }
        int was = now.x;
        now.x = x;
        return was;
    }

    public int lives(int m, int n, int p, int what) {
        if (!now.street.isTold() || m < 1 || m > 10 || !isSpan(n)) {
            return NONE;
        }
        if (p < 0 || p > 100 || what < 0 || what > 1) {
            return NONE;
        }
        int x = now.x;
        int hours = 0;
        long town = 0;
        for (int life = 0; life < m; life++) {
            trial.copyOf(now.moment);
            for (int i = 0; i < n; i++) {
                x = player.draw(now.street, trial, x, p);
                hours += player.play(now.street, trial, null);
            }
            town += trial.owed[TOWN] - now.moment.owed[TOWN];
        }
        return what == 0 ? hours : (int) (town / SIXTIETHS);
    }

    public int count(int what) {
        switch (what) {
            case 0: return now.street.hours;
            case 1: return now.street.people;
            case 2: return now.street.works;
            case 3: return now.street.lamps;
            case 4: return now.street.lits;
            case 5: return ruleCount;
            case 6: return now.ruleInForce;
            case 7: return now.moment.hour;
            case 8: return now.moment.night;
            case 9: return now.moment.asleep;
            case 10: return burningNow();
            case 11: return now.street.costOf(burningNow());
            case 12: return now.facts.size;
            case 13: return acts.size;
            case 14: return now.x;
            case 15: return tape.length;
            default: return NONE;
        }
    }

    public int image(int k) {
        if (k < 0 || k >= MOST_IMAGES) {
            return NONE;
        }
        images[k].copyOf(now);
        images[k].isMade = true;
        return now.moment.night;
    }

    public int back(int k) {
        if (k < 0 || k >= MOST_IMAGES || !images[k].isMade) {
            return NONE;
        }
        now.copyOf(images[k]);
        acts.clear();
        return now.moment.night;
    }

    private static int bitOf(int set, int place) {
        return (set >> place) & 1;
    }

    private static boolean isPart(int part) {
        return part == 0 || part == 1;
    }

    private static boolean isSpan(int n) {
        return n >= 1 && n <= 60;
    }

    private boolean isDebtor(int person) {
        return now.street.isTold() && (person == NONE || now.street.isPerson(person));
    }

    private static int debtorRow(int person) {
        return person == NONE ? TOWN : person;
    }

    private int workersNow() {
        return now.street.workersAt(now.moment.hour);
    }

    private int burningNow() {
        return now.moment.burningAt(now.street, now.moment.hour);
    }

    private Rule ruleNow() {
        int rule = now.ruleInForce;
        return rule >= 0 && rule < ruleCount ? rules[rule] : null;
    }

    private void playTrial(int n) {
        for (int i = 0; i < n; i++) {
            player.play(now.street, trial, ruleNow());
        }
    }

    /** A fraction in lowest terms: part 0 above, 1 below the line. */
    private static int fraction(long above, long below, int part) {
        long divisor = below;
        long rest = Math.abs(above);
        for (int i = 0; i < 200 && rest != 0; i++) {
            long next = divisor % rest;
            divisor = rest;
            rest = next;
        }
        if (divisor == 0) {
            return 0;
        }
        return (int) ((part == 0 ? above : below) / divisor);
    }

    /** CHEAP is the GUILD of one PERSON: both are answered here. */
    private int sleepTogether(int set, int k, int what) {
        if (k < 0 || k > MOST_HOURS || what < 0 || what > 2) {
            return NONE;
        }
        Street street = now.street;
        int open = 0;
        for (int hour = 0; hour < MOST_HOURS; hour++) {
            hourCosts[hour] = street.costOf(now.moment.burningAt(street, hour));
            boolean left = hour >= now.moment.hour && hour < street.hours;
            if (left && (street.workersAt(hour) & set) == 0) {
                open |= 1 << hour;
            }
        }
        if (Integer.bitCount(open) < k) {
            return ABSENT;
        }
        int chosen = cheapestHours(open, k);
        if (what == 0) {
            return chosen;
        }
        int asleep = Integer.bitCount(now.moment.asleep | set);
        return fraction((long) costOfHours(chosen) * Integer.bitCount(set), asleep, what - 1);
    }

    /** Of equal hours the earlier is taken, which makes the set of bits the least. */
    private int cheapestHours(int open, int k) {
        int chosen = 0;
        for (int i = 0; i < k; i++) {
            int best = NONE;
            for (int hour = 0; hour < MOST_HOURS; hour++) {
                boolean free = bitOf(open & ~chosen, hour) == 1;
                if (free && (best == NONE || hourCosts[hour] < hourCosts[best])) {
                    best = hour;
                }
            }
            if (best != NONE) {
                chosen |= 1 << best;
            }
        }
        return chosen;
    }

    private int costOfHours(int set) {
        int sum = 0;
        for (int hour = 0; hour < MOST_HOURS; hour++) {
            if (bitOf(set, hour) == 1) {
                sum += hourCosts[hour];
            }
        }
        return sum;
    }

    private boolean isAtRest(int set, int free, int cost) {
        int many = Integer.bitCount(set);
        for (int person = 0; person < now.street.people; person++) {
            int worth = now.street.worth[person];
            if (bitOf(set, person) == 1) {
                if (cost > worth * many) {
                    return false;
                }
            } else if (bitOf(free, person) == 1 && cost < worth * (many + 1)) {
                return false;
            }
        }
        return true;
    }

    private boolean allCouldSleep(int burning) {
        int free = now.street.everyone() & ~workersNow();
        int cost = now.street.costOf(burning);
        for (int person = 0; person < now.street.people; person++) {
            boolean sleeps = bitOf(free, person) == 1;
            if (sleeps && cost > now.street.worth[person] * Integer.bitCount(free)) {
                return false;
            }
        }
        return true;
    }

    private boolean isFact(int what, int one, int much, int cost) {
        switch (what) {
            case 0:
            case 1:
                return now.street.isPerson(one);
            case 2:
            case 3:
                return one >= 0 && one <= 5;
            case 4:
            case 5:
                return now.street.isPerson(one) && much >= 0 && much <= 300 && cost >= 0 && cost <= 300;
            default:
                return false;
        }
    }

    /** How many sets that the FACTS allow hold all of these PEOPLE. */
    private int setsWith(int people) {
        int many = 0;
        for (int set = 0; set <= now.street.everyone(); set++) {
            if ((people & ~set) == 0 && now.facts.allow(set)) {
                many++;
            }
        }
        return many;
    }

    /** Fills nightCosts with the least cost of 0, 1, .. HOURS alone in a NIGHT; answers the most. */
    private int priceNight(int person) {
        Street street = now.street;
        int open = 0;
        for (int hour = 0; hour < MOST_HOURS; hour++) {
            hourCosts[hour] = street.costOf(street.litAt(hour));
            if (hour < street.hours && bitOf(street.workersAt(hour), person) == 0) {
                open |= 1 << hour;
            }
        }
        int most = Math.min(street.need[person], Integer.bitCount(open));
        for (int hours = 0; hours <= MOST_HOURS; hours++) {
            nightCosts[hours] = costOfHours(cheapestHours(open, Math.min(hours, most)));
        }
        return most;
    }

    /**
     * The least cost of so many HOURS in n equal NIGHTS. In a NIGHT each further
     * HOUR costs as much as the one ahead of it or more, so none is cheaper than
     * an even spread.
     */
    private int evenCost(int n, int hours) {
        if (n <= 0) {
            return 0;
        }
        int each = Math.min(hours / n, MOST_HOURS);
        int more = hours % n;
        int dearer = Math.min(each + 1, MOST_HOURS);
        return more * nightCosts[dearer] + (n - more) * nightCosts[each];
    }

    /** HOURS of one NIGHT of the first row that costs least: each as few as the cost lets it. */
    private int sleepInNight(int n, int wanted, int most, int which) {
        int left = wanted;
        int hours = 0;
        for (int night = 0; night <= which; night++) {
            int behind = n - night - 1;
            int least = evenCost(behind + 1, left);
            hours = Math.max(0, left - behind * most);
            for (int i = 0; i < most && hours < most; i++) {
                if (nightCosts[hours] + evenCost(behind, Math.max(0, left - hours)) <= least) {
                    break;
                }
                hours++;
            }
            left = Math.max(0, left - hours);
        }
        return hours;
    }

    /** The TAPE, and a walk along its words, numbers and signs that stops at the first FAULT. */
    private static final class Text {
        static final int MOST = 400;

        static final int WRONG = 0;
        static final int BAD_NUMBER = 1;
        static final int TOO_DEEP = 2;
        static final int TOO_LONG = 3;
        static final int TOO_MANY = 4;

        /** Those of a VALUE come first, as Player.valueOf numbers them. */
        static final String WORDS =
            "person hour night need worth slept left cost others asleep owed debt own street work lamp lit sleep if or and not";
        static final int PERSON = 0;
        static final int LAST_VALUE = 12;
        static final int STREET = 13;
        static final int WORK = 14;
        static final int LAMP = 15;
        static final int LIT = 16;
        static final int SLEEP = 17;
        static final int IF = 18;
        static final int OR = 19;
        static final int AND = 20;
        static final int NOT = 21;

        /** Added to the first byte of a sign that has a second: <= and >=. */
        static final int OR_EQUAL = 256;

        static final int IS_END = 0;
        static final int IS_NUMBER = 1;
        private static final int IS_WORD = 2;
        private static final int IS_SIGN = 3;

        private final byte[] bytes = new byte[MOST];
        int length = 0;
        int fault = 0;
        private final int[] kinds = new int[MOST + 1];
        private final int[] values = new int[MOST + 1];
        private final int[] places = new int[MOST + 1];
        private int size = 0;
        private int at = NONE;
        /** What is here: its kind, and its value as what it is, NONE as all else. */
        int kind = IS_END;
        int number = NONE;
        int word = NONE;
        int sign = NONE;

        boolean hasRoom(int more) {
            return length + more <= MOST;
        }

        void append(int number) {
            for (int shift = 24; shift >= 0; shift -= 8) {
                if (length >= 0 && length < MOST) {
                    bytes[length] = (byte) (number >> shift);
                    length++;
                }
            }
        }

        /** Splits the TAPE, and goes to its beginning. */
        void open() {
            size = 0;
            at = NONE;
            fault = 0;
            int place = 0;
            for (int i = 0; i < MOST && place < length; i++) {
                place = splitAt(place);
            }
            add(IS_END, 0, length);
            step();
        }

        private void add(int kind, int value, int place) {
            if (size >= 0 && size <= MOST) {
                kinds[size] = kind;
                values[size] = value;
                places[size] = place;
                size++;
            }
        }

        /** Answers the place behind what begins here. */
        private int splitAt(int place) {
            int first = byteAt(place);
            if (first == ' ') {
                return place + 1;
            }
            if (isDigit(first)) {
                return splitNumber(place);
            }
            if (isSmall(first)) {
                return splitWord(place);
            }
            boolean two = (first == '<' || first == '>') && byteAt(place + 1) == '=';
            add(IS_SIGN, two ? first + OR_EQUAL : first, place);
            return two ? place + 2 : place + 1;
        }

        /** A NUMBER of too many digits is NONE. */
        private int splitNumber(int place) {
            int number = 0;
            int behind = place;
            while (behind < length && isDigit(byteAt(behind))) {
                number = behind - place < 5 ? number * 10 + byteAt(behind) - '0' : NONE;
                behind++;
            }
            add(IS_NUMBER, number, place);
            return behind;
        }

        private int splitWord(int place) {
            int behind = place;
            while (behind < length && isSmall(byteAt(behind))) {
                behind++;
            }
            add(IS_WORD, wordBetween(place, behind), place);
            return behind;
        }

        /** Which of WORDS it is; NONE: none of them. */
        private int wordBetween(int place, int behind) {
            int number = 0;
            int start = 0;
            for (int i = 0; i <= WORDS.length(); i++) {
                if (i == WORDS.length() || WORDS.charAt(i) == ' ') {
                    if (i - start == behind - place && isSame(place, start, i)) {
                        return number;
                    }
                    number++;
                    start = i + 1;
                }
            }
            return NONE;
        }

        private boolean isSame(int place, int start, int stop) {
            for (int i = start; i < stop && i < WORDS.length(); i++) {
                if (WORDS.charAt(i) != byteAt(place + i - start)) {
                    return false;
                }
            }
            return true;
        }

        private int byteAt(int place) {
            return place >= 0 && place < length && place < MOST ? bytes[place] & 255 : NONE;
        }

        private static boolean isDigit(int sign) {
            return sign >= '0' && sign <= '9';
        }

        private static boolean isSmall(int sign) {
            return sign >= 'a' && sign <= 'z';
        }

        /** Goes on; stays at the end. */
        void step() {
            int next = at + 1;
            if (next < 0 || next >= size || next > MOST) {
                return;
            }
            at = next;
            kind = kinds[at];
            number = kind == IS_NUMBER ? values[at] : NONE;
            word = kind == IS_WORD ? values[at] : NONE;
            sign = kind == IS_SIGN ? values[at] : NONE;
        }

        boolean refuse(int why) {
            int place = at >= 0 && at <= MOST ? places[at] : 0;
            fault = 1 + 8 * place + why;
            return false;
        }

        boolean takeSign(int wanted) {
            if (sign != wanted) {
                return refuse(WRONG);
            }
            step();
            return true;
        }

        /** The NUMBER here, if it is one of low to high; else NONE, and it is a FAULT. */
        int takeNumber(int low, int high) {
            int taken = number;
            if (kind != IS_NUMBER) {
                refuse(WRONG);
                return NONE;
            }
            if (taken < low || taken > high) {
                refuse(BAD_NUMBER);
                return NONE;
            }
            step();
            return taken;
        }
    }

    /** What a STREET tells: it does not change with the HOURS. */
    private static final class Street {
        final int[] need = new int[MOST_PEOPLE];
        final int[] worth = new int[MOST_PEOPLE];
        final int[] owner = new int[MOST_LAMPS];
        final int[] lampCost = new int[MOST_LAMPS];
        private final int[] workers = new int[MOST_HOURS];
        private final int[] lit = new int[MOST_HOURS];
        int hours = 0;
        int people = 0;
        int works = 0;
        int lamps = 0;
        int lits = 0;

        void clear() {
            hours = 0;
            people = 0;
            works = 0;
            lamps = 0;
            lits = 0;
            for (int hour = 0; hour < MOST_HOURS; hour++) {
                workers[hour] = 0;
                lit[hour] = 0;
            }
        }

        void copyOf(Street from) {
            hours = from.hours;
            people = from.people;
            works = from.works;
            lamps = from.lamps;
            lits = from.lits;
            System.arraycopy(from.need, 0, need, 0, MOST_PEOPLE);
            System.arraycopy(from.worth, 0, worth, 0, MOST_PEOPLE);
            System.arraycopy(from.owner, 0, owner, 0, MOST_LAMPS);
            System.arraycopy(from.lampCost, 0, lampCost, 0, MOST_LAMPS);
            System.arraycopy(from.workers, 0, workers, 0, MOST_HOURS);
            System.arraycopy(from.lit, 0, lit, 0, MOST_HOURS);
        }

        boolean isTold() {
            return hours > 0;
        }

        boolean isPerson(int number) {
            return number >= 0 && number < people && number < MOST_PEOPLE;
        }

        boolean isLamp(int number) {
            return number >= 0 && number < lamps && number < MOST_LAMPS;
        }

        int everyone() {
            return (1 << people) - 1;
        }

        int workersAt(int hour) {
            return hour >= 0 && hour < MOST_HOURS ? workers[hour] : 0;
        }

        int litAt(int hour) {
            return hour >= 0 && hour < MOST_HOURS ? lit[hour] : 0;
        }

        int costOf(int set) {
            int sum = 0;
            for (int number = 0; number < MOST_LAMPS; number++) {
                if (bitOf(set, number) == 1) {
                    sum += lampCost[number];
                }
            }
            return sum;
        }

        int lampsOf(int person) {
            int set = 0;
            for (int number = 0; number < lamps; number++) {
                if (owner[number] == person) {
                    set |= 1 << number;
                }
            }
            return set;
        }

        void addPerson(int needed, int hourWorth) {
            if (people >= 0 && people < MOST_PEOPLE) {
                need[people] = needed;
                worth[people] = hourWorth;
                people++;
            }
        }

        void addLamp(int whose, int cost) {
            if (lamps >= 0 && lamps < MOST_LAMPS) {
                owner[lamps] = whose;
                lampCost[lamps] = cost;
                lamps++;
            }
        }

        void addWork(int person, int first, int last) {
            works++;
            addSpan(workers, person, first, last);
        }

        void addLit(int number, int first, int last) {
            lits++;
            addSpan(lit, number, first, last);
        }

        private static void addSpan(int[] sets, int number, int first, int last) {
            for (int hour = Math.max(0, first); hour <= last && hour < sets.length; hour++) {
                sets[hour] |= 1 << number;
            }
        }
    }

    /** Reads the TAPE as a STREET. */
    private static final class StreetReader {
        private static final int MOST_CLAUSES = 40;
        private static final int MOST_SPANS = 8;
        private static final int TOWNS = 9;

        private final Text text;

        StreetReader(Text text) {
            this.text = text;
        }

        /** Answers the FAULT, or 0. */
        int readInto(Street into) {
            into.clear();
            text.open();
            for (int clause = 0; clause <= MOST_CLAUSES; clause++) {
                if (!readClause(into, clause)) {
                    return text.fault;
                }
                if (text.kind == Text.IS_END) {
                    return 0;
                }
                if (!text.takeSign(';')) {
                    return text.fault;
                }
            }
            return text.fault;
        }

        private boolean readClause(Street into, int clause) {
            int which = text.word;
            if (!isClause(which)) {
                return text.refuse(Text.WRONG);
            }
            boolean misplaced = (which == Text.STREET) != (clause == 0);
            if (clause >= MOST_CLAUSES || misplaced || isFull(into, which)) {
                return text.refuse(Text.TOO_MANY);
            }
            text.step();
            switch (which) {
                case Text.STREET: return readHours(into);
                case Text.PERSON: return readPerson(into);
                case Text.LAMP: return readLamp(into);
                default: return readSpan(into, which);
            }
        }

        private static boolean isClause(int word) {
            return word == Text.PERSON || (word >= Text.STREET && word <= Text.LIT);
        }

        private static boolean isFull(Street into, int which) {
            switch (which) {
                case Text.PERSON: return into.people >= MOST_PEOPLE;
                case Text.WORK: return into.works >= MOST_SPANS;
                case Text.LAMP: return into.lamps >= MOST_LAMPS;
                case Text.LIT: return into.lits >= MOST_SPANS;
                default: return false;
            }
        }

        private boolean readHours(Street into) {
            int hours = text.takeNumber(2, MOST_HOURS);
            if (hours == NONE) {
                return false;
            }
            into.hours = hours;
            return true;
        }

        private boolean readPerson(Street into) {
            int need = text.takeNumber(0, into.hours);
            if (need == NONE) {
                return false;
            }
            int worth = text.takeNumber(0, 60);
            if (worth == NONE) {
                return false;
            }
            into.addPerson(need, worth);
            return true;
        }

        private boolean readLamp(Street into) {
            int last = text.number == TOWNS ? TOWNS : into.people - 1;
            int whose = text.takeNumber(0, last);
            if (whose == NONE) {
                return false;
            }
            int cost = text.takeNumber(1, 60);
            if (cost == NONE) {
                return false;
            }
            into.addLamp(whose, cost);
            return true;
        }

        private boolean readSpan(Street into, int which) {
            int told = which == Text.WORK ? into.people : into.lamps;
            int number = text.takeNumber(0, told - 1);
            if (number == NONE) {
                return false;
            }
            int first = text.takeNumber(0, into.hours - 1);
            if (first == NONE) {
                return false;
            }
            int last = text.takeNumber(first, into.hours - 1);
            if (last == NONE) {
                return false;
            }
            if (which == Text.WORK) {
                into.addWork(number, first, last);
            } else {
                into.addLit(number, first, last);
            }
            return true;
        }
    }

    /**
     * A RULE as steps for a stack: a NUMBER is itself, a WORD is -1 less its
     * place in Text.WORDS, all else is one of the constants. Behind the steps of its
     * SUM and its TEST a CLAUSE has ANSWER (no TEST) or ANSWER_IF.
     */
    private static final class Rule {
        static final int ADD = -20;
        static final int SUBTRACT = -21;
        static final int MULTIPLY = -22;
        static final int DIVIDE = -23;
        static final int REMAIN = -24;
        static final int BELOW = -25;
        static final int AT_MOST = -26;
        static final int SAME = -27;
        static final int AT_LEAST = -28;
        static final int ABOVE = -29;
        static final int BOTH = -30;
        static final int EITHER = -31;
        static final int NOT = -32;
        static final int ANSWER = -33;
        static final int ANSWER_IF = -34;
        static final int NO_STEP = -99;

        final int[] steps;

        Rule(int[] from, int size) {
            int most = Math.max(0, Math.min(size, from.length));
            steps = new int[most];
            System.arraycopy(from, 0, steps, 0, most);
        }

        static long combine(int step, long left, long right) {
            switch (step) {
                case ADD: return left + right;
                case SUBTRACT: return left - right;
                case MULTIPLY: return left * right;
                case DIVIDE: return right == 0 ? 0 : left / right;
                case REMAIN: return right == 0 ? 0 : left % right;
                case BELOW: return left < right ? 1 : 0;
                case AT_MOST: return left <= right ? 1 : 0;
                case SAME: return left == right ? 1 : 0;
                case AT_LEAST: return left >= right ? 1 : 0;
                case ABOVE: return left > right ? 1 : 0;
                case BOTH: return left & right;
                case EITHER: return left | right;
                default: return 0;
            }
        }
    }

    /** Reads the TAPE as a RULE. */
    private static final class RuleReader {
        private static final int MOST_CLAUSES = 12;
        private static final int MOST_DEPTH = 10;
        private static final int MOST_VALUES = 60;
        /** Each byte of the TAPE makes one step at most, each CLAUSE one more. */
        private static final int MOST_STEPS = Text.MOST + MOST_CLAUSES;

        private final Text text;
        private final int[] steps = new int[MOST_STEPS];
        private int size = 0;
        private int values = 0;

        RuleReader(Text text) {
            this.text = text;
        }

        Rule made() {
            return new Rule(steps, size);
        }

        /** Answers the FAULT, or 0. */
        int readText() {
            size = 0;
            values = 0;
            text.open();
            for (int clause = 0; clause <= MOST_CLAUSES; clause++) {
                if (!readClause(clause)) {
                    return text.fault;
                }
                if (text.kind == Text.IS_END) {
                    return 0;
                }
                if (!text.takeSign(';')) {
                    return text.fault;
                }
            }
            return text.fault;
        }

        /** Always true, so that it can end a row of &&. */
        private boolean emit(int step) {
            if (step != Rule.NO_STEP && size >= 0 && size < MOST_STEPS) {
                steps[size] = step;
                size++;
            }
            return true;
        }

        private boolean readClause(int clause) {
            if (text.word != Text.SLEEP) {
                return text.refuse(Text.WRONG);
            }
            if (clause >= MOST_CLAUSES) {
                return text.refuse(Text.TOO_MANY);
            }
            text.step();
            if (!readSum()) {
                return false;
            }
            if (text.word != Text.IF) {
                return emit(Rule.ANSWER);
            }
            text.step();
            return readTest(0) && emit(Rule.ANSWER_IF);
        }

        /** As 'and' binds closer, the step of an 'or' waits till the PART behind it is read. */
        private boolean readTest(int depth) {
            int or = Rule.NO_STEP;
            int and = Rule.NO_STEP;
            for (int i = 0; i < Text.MOST; i++) {
                if (!readFact(depth)) {
                    return false;
                }
                emit(and);
                and = text.word == Text.AND ? Rule.BOTH : Rule.NO_STEP;
                if (and == Rule.NO_STEP) {
                    emit(or);
                    or = text.word == Text.OR ? Rule.EITHER : Rule.NO_STEP;
                    if (or == Rule.NO_STEP) {
                        return true;
                    }
                }
                text.step();
            }
            return text.refuse(Text.TOO_LONG);
        }

        private boolean readFact(int depth) {
            boolean opens = text.word == Text.NOT || text.sign == '[';
            if (opens && depth >= MOST_DEPTH) {
                return text.refuse(Text.TOO_DEEP);
            }
            if (text.word == Text.NOT) {
                text.step();
                return readFact(depth + 1) && emit(Rule.NOT);
            }
            if (text.sign == '[') {
                text.step();
                return readTest(depth + 1) && text.takeSign(']');
            }
            if (!readSum()) {
                return false;
            }
            int step = comparisonOf(text.sign);
            if (step == Rule.NO_STEP) {
                return text.refuse(Text.WRONG);
            }
            if (values >= MOST_VALUES) {
                return text.refuse(Text.TOO_LONG);
            }
            values++;
            text.step();
            return readSum() && emit(step);
        }

        /** As * / and % bind closer, the step of a + or - waits till the TERM behind it is read. */
        private boolean readSum() {
            int summand = Rule.NO_STEP;
            int factor = Rule.NO_STEP;
            for (int i = 0; i < Text.MOST; i++) {
                if (!readValue()) {
                    return false;
                }
                emit(factor);
                factor = factorOf(text.sign);
                if (factor == Rule.NO_STEP) {
                    emit(summand);
                    summand = summandOf(text.sign);
                    if (summand == Rule.NO_STEP) {
                        return true;
                    }
                }
                text.step();
            }
            return text.refuse(Text.TOO_LONG);
        }

        private boolean readValue() {
            boolean isNumber = text.kind == Text.IS_NUMBER;
            boolean isWord = text.word >= 0 && text.word <= Text.LAST_VALUE;
            if (!isNumber && !isWord) {
                return text.refuse(Text.WRONG);
            }
            if (isNumber && text.number == NONE) {
                return text.refuse(Text.BAD_NUMBER);
            }
            if (values >= MOST_VALUES) {
                return text.refuse(Text.TOO_LONG);
            }
            values++;
            emit(isNumber ? text.number : -1 - text.word);
            text.step();
            return true;
        }

        private static int summandOf(int sign) {
            switch (sign) {
                case '+': return Rule.ADD;
                case '-': return Rule.SUBTRACT;
                default: return Rule.NO_STEP;
            }
        }

        private static int factorOf(int sign) {
            switch (sign) {
                case '*': return Rule.MULTIPLY;
                case '/': return Rule.DIVIDE;
                case '%': return Rule.REMAIN;
                default: return Rule.NO_STEP;
            }
        }

        private static int comparisonOf(int sign) {
            switch (sign) {
                case '<': return Rule.BELOW;
                case '<' + Text.OR_EQUAL: return Rule.AT_MOST;
                case '=': return Rule.SAME;
                case '>' + Text.OR_EQUAL: return Rule.AT_LEAST;
                case '>': return Rule.ABOVE;
                default: return Rule.NO_STEP;
            }
        }
    }

    /** What ACTS change, and UNDO brings back. */
    private static final class Moment {
        static final int LAST_NIGHT = 999;

        int hour = 0;
        int night = 0;
        int asleep = 0;
        private int lit = 0;
        private int out = 0;
        final int[] hoursSlept = new int[MOST_PEOPLE];
        final int[] debt = new int[MOST_PEOPLE];
        /** In sixtieths, the TOWN behind the PEOPLE. */
        final long[] owed = new long[MOST_PEOPLE + 1];

        void clear() {
            hour = 0;
            night = 0;
            asleep = 0;
            lit = 0;
            out = 0;
            owed[TOWN] = 0;
            for (int person = 0; person < MOST_PEOPLE; person++) {
                hoursSlept[person] = 0;
                debt[person] = 0;
                owed[person] = 0;
            }
        }

        void copyOf(Moment from) {
            hour = from.hour;
            night = from.night;
            asleep = from.asleep;
            lit = from.lit;
            out = from.out;
            System.arraycopy(from.hoursSlept, 0, hoursSlept, 0, MOST_PEOPLE);
            System.arraycopy(from.debt, 0, debt, 0, MOST_PEOPLE);
            System.arraycopy(from.owed, 0, owed, 0, MOST_PEOPLE + 1);
        }

        boolean isLast(Street street) {
            return night >= LAST_NIGHT && hour >= street.hours - 1;
        }

        int burningAt(Street street, int when) {
            return (street.litAt(when) | lit) & ~out;
        }

        void setLamp(int number, boolean burns) {
            int bit = 1 << number;
            lit = burns ? lit | bit : lit & ~bit;
            out = burns ? out & ~bit : out | bit;
        }

        void goOn(Street street) {
            hour++;
            if (hour < street.hours) {
                return;
            }
            hour = 0;
            night = Math.min(LAST_NIGHT, night + 1);
            asleep = 0;
            lit = 0;
            out = 0;
            for (int person = 0; person < street.people; person++) {
                int lack = debt[person] + street.need[person] - hoursSlept[person];
                debt[person] = Math.max(0, Math.min(999, lack));
                hoursSlept[person] = 0;
            }
        }
    }

    /** The moments ahead of the last ACTS, in a ring. */
    private static final class Acts {
        private static final int MOST = 20;

        private final Moment[] ring = new Moment[MOST];
        private int next = 0;
        int size = 0;

        Acts() {
            for (int i = 0; i < MOST; i++) {
                ring[i] = new Moment();
            }
        }

        void clear() {
            size = 0;
        }

        void keep(Moment moment) {
            if (next < 0 || next >= MOST) {
                next = 0;
            }
            ring[next].copyOf(moment);
            next = (next + 1) % MOST;
            size = Math.min(MOST, size + 1);
        }

        boolean takeBack(Moment into) {
            if (size <= 0) {
                return false;
            }
            next = Math.floorMod(next - 1, MOST);
            into.copyOf(ring[next]);
            size--;
            return true;
        }
    }

    /** FACTS of one HOUR that was. */
    private static final class Facts {
        private final int[] what = new int[MOST_FACTS];
        private final int[] one = new int[MOST_FACTS];
        private final int[] much = new int[MOST_FACTS];
        private final int[] cost = new int[MOST_FACTS];
        int size = 0;

        void clear() {
            size = 0;
        }

        void copyOf(Facts from) {
            size = from.size;
            System.arraycopy(from.what, 0, what, 0, MOST_FACTS);
            System.arraycopy(from.one, 0, one, 0, MOST_FACTS);
            System.arraycopy(from.much, 0, much, 0, MOST_FACTS);
            System.arraycopy(from.cost, 0, cost, 0, MOST_FACTS);
        }

        boolean add(int whatTold, int oneTold, int muchTold, int costTold) {
            if (size < 0 || size >= MOST_FACTS) {
                return false;
            }
            what[size] = whatTold;
            one[size] = oneTold;
            much[size] = muchTold;
            cost[size] = costTold;
            size++;
            return true;
        }

        boolean allow(int set) {
            for (int i = 0; i < size && i < MOST_FACTS; i++) {
                if (!allows(i, set)) {
                    return false;
                }
            }
            return true;
        }

        private boolean allows(int i, int set) {
            int many = Integer.bitCount(set);
            boolean slept = bitOf(set, one[i]) == 1;
            switch (what[i]) {
                case 0: return slept;
                case 1: return !slept;
                case 2: return many >= one[i];
                case 3: return many <= one[i];
                case 4: return slept && cost[i] <= much[i] * many;
                default: return slept && cost[i] > much[i] * many;
            }
        }
    }

    /** All that an IMAGE holds. */
    private static final class Scene {
        final Street street = new Street();
        final Moment moment = new Moment();
        final Facts facts = new Facts();
        int ruleInForce = NONE;
        int x = 0;
        boolean isMade = false;

        void copyOf(Scene from) {
            street.copyOf(from.street);
            moment.copyOf(from.moment);
            facts.copyOf(from.facts);
            ruleInForce = from.ruleInForce;
            x = from.x;
        }
    }

    /** Plays HOURS. */
    private static final class Player {
        /** Far above what 10 levels of brackets can leave waiting. */
        private static final int MOST_WAITING = 64;

        private final long[] waiting = new long[MOST_WAITING];
        private int size = 0;
        /** Of the HOUR played last, as a Moment forgets who slept when its NIGHT is over. */
        private int sleepers = 0;
        private long cost = 0;

        /** One HOUR: how many slept in it. */
        int play(Street street, Moment moment, Rule rule) {
            int workers = street.workersAt(moment.hour);
            moment.asleep &= ~workers;
            for (int person = 0; person < street.people && rule != null; person++) {
                if (bitOf(workers, person) == 0) {
                    setAsleep(moment, person, answer(street, moment, rule, person) > 0);
                }
            }
            sleepers = moment.asleep;
            cost = (long) SIXTIETHS * street.costOf(moment.burningAt(street, moment.hour));
            share(street, moment);
            for (int person = 0; person < street.people; person++) {
                moment.hoursSlept[person] += bitOf(sleepers, person);
            }
            moment.goOn(street);
            return Integer.bitCount(sleepers);
        }

        /** Puts to sleep or wakes each who does not work by a DRAW: what x is then. */
        int draw(Street street, Moment moment, int x, int below) {
            int workers = street.workersAt(moment.hour);
            long drawn = x;
            for (int person = 0; person < street.people; person++) {
                if (bitOf(workers, person) == 0) {
                    drawn = (drawn * 1103515245L + 12345L) & 2147483647L;
                    setAsleep(moment, person, drawn / 65536 % 100 < below);
                }
            }
            return (int) drawn;
        }

        private static void setAsleep(Moment moment, int person, boolean is) {
            int bit = 1 << person;
            moment.asleep = is ? moment.asleep | bit : moment.asleep & ~bit;
        }

        private void share(Street street, Moment moment) {
            if (sleepers == 0) {
                moment.owed[TOWN] += cost;
                return;
            }
            for (int person = 0; person < street.people; person++) {
                moment.owed[person] += shareAmong(sleepers, person);
            }
        }

        /**
         * What one would owe for the HOUR played last, in sixtieths. Only who pays is
         * supposed: who slept, and what a RULE asked of what is owed, is as it is.
         */
        long shareIfWakingPaid(Street street, int person) {
            return shareAmong(street.everyone() & ~sleepers, person);
        }

        private long shareAmong(int payers, int person) {
            int many = Integer.bitCount(payers);
            return many > 0 && bitOf(payers, person) == 1 ? cost / many : 0;
        }

        private long answer(Street street, Moment moment, Rule rule, int person) {
            size = 0;
            for (int i = 0; i < rule.steps.length; i++) {
                int step = rule.steps[i];
                if (step >= 0) {
                    push(step);
                } else if (step > Rule.ADD) {
                    push(valueOf(-1 - step, street, moment, person));
                } else if (step == Rule.NOT) {
                    push(1 - pop());
                } else if (step == Rule.ANSWER) {
                    return pop();
                } else if (step == Rule.ANSWER_IF) {
                    boolean holds = pop() != 0;
                    long sum = pop();
                    if (holds) {
                        return sum;
                    }
                } else {
                    long right = pop();
                    push(Rule.combine(step, pop(), right));
                }
            }
            return 0;
        }

        private void push(long value) {
            if (size >= 0 && size < MOST_WAITING) {
                waiting[size] = value;
                size++;
            }
        }

        private long pop() {
            if (size <= 0 || size > MOST_WAITING) {
                return 0;
            }
            size--;
            return waiting[size];
        }

        private static long valueOf(int word, Street street, Moment moment, int person) {
            int burning = moment.burningAt(street, moment.hour);
            switch (word) {
                case 0: return person;
                case 1: return moment.hour;
                case 2: return moment.night;
                case 3: return street.need[person];
                case 4: return street.worth[person];
                case 5: return moment.hoursSlept[person];
                case 6: return street.hours - moment.hour;
                case 7: return street.costOf(burning);
                case 8: return Integer.bitCount(moment.asleep & ~(1 << person));
                case 9: return bitOf(moment.asleep, person);
                case 10: return moment.owed[person] / SIXTIETHS;
                case 11: return moment.debt[person];
                case 12: return street.costOf(burning & street.lampsOf(person));
                default: return 0;
            }
        }
    }
}
