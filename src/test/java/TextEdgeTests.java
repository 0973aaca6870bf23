/** The boundaries of the TAPE, of the texts of STREETS and RULES, and of FAULTS: promises 1 to 6. */
public final class TextEdgeTests {
    private static final int NONE = Edge.NONE;
    private static final int TERMS = Edge.TERMS;
    /** As much of all as there can be: 27 CLAUSES, 276 bytes. */
    private static final String FULL = "street 2" + ";person 0 0".repeat(5) + ";work 0 0 0".repeat(8)
        + ";lamp 9 1".repeat(5) + ";lit 0 0 0".repeat(8);
    /** 4 bytes of blanks. */
    private static final int BLANKS = 0x20202020;
    /** A product that goes round to -49. */
    private static final String MINUS_49 = "1221*37241*1039*6323*61751";
    /** A product that goes round to the least number there is. */
    private static final String LEAST = "32768*32768*32768*32768*8";

    public static void main(String[] args) throws Exception {
        Edge.run(TextEdgeTests.class);
    }

    private static void says(int where, String words) {
        Edge.says(where, words);
    }

    private static void due(String call, int got, int want) {
        Edge.due(call, got, want);
    }

    private static void badStreet(String text, int place, int kind) {
        Edge.badStreet(text, place, kind);
    }

    private static void badRule(String text, int place, int kind) {
        Edge.badRule(text, place, kind);
    }

    /** Whether the one PERSON of a street sleeps by this RULE. */
    private static void sleepsBy(String rule, int want) {
        SleepersPay x = Edge.street("street 2;person 0 0");
        Edge.inForce(x, rule);
        due("hour() by '" + rule + "'", x.hour(), want);
    }

    // ---- 1: a new object

    static void newWithoutStreet() {
        says(1, "No STREET");
        SleepersPay x = new SleepersPay();
        due("HOURS", x.count(0), 0);
        due("PEOPLE", x.count(1), 0);
        due("LAMPS", x.count(3), 0);
        due("hour()", x.hour(), NONE);
        due("person(0, 0)", x.person(0, 0), NONE);
        due("x", x.count(14), 0);
        due("TAPE", x.count(15), 0);
    }

    static void newWithoutRules() {
        says(1, "no RULES");
        SleepersPay x = new SleepersPay();
        due("RULES", x.count(5), 0);
        due("force(0)", x.force(0), -2);
    }

    static void newWithoutForce() {
        says(1, "none IN FORCE");
        SleepersPay x = new SleepersPay();
        due("count(6)", x.count(6), NONE);
        due("force(NONE)", x.force(NONE), NONE);
    }

    static void noneIsBelowNought() {
        says(TERMS, "`NONE = -1`: None");
        due("NONE", SleepersPay.NONE, -1);
    }

    // ---- 2: feed

    static void feedComesBehind() {
        says(2, "Twenty bytes come behind the TAPE, of each number the highest first: how many it has");
        SleepersPay x = new SleepersPay();
        due("feed", x.feed(0x736c6565, 0x70203120, BLANKS, BLANKS, BLANKS), 20);
        due("feed", x.feed(0x69662031, 0x3c322020, BLANKS, BLANKS, BLANKS), 40);
        due("'sleep 1' and 'if 1<2'", x.rule(), 0);
    }

    static void feedHighestFirst() {
        says(2, "of each number the highest first");
        SleepersPay x = new SleepersPay();
        x.feed(0x73747265, 0x65742033, BLANKS, BLANKS, BLANKS);
        due("'street 3'", x.street(), 0);
        due("HOURS", x.count(0), 3);
        x.feed(0x73747265, 0x657420b2, BLANKS, BLANKS, BLANKS);
        due("a byte above 127 is no digit", x.street(), Telling.fault(7, 0));
    }

    static void feedFull() {
        says(2, "NONE, and none comes, if it would have more than 400");
        SleepersPay x = new SleepersPay();
        x.feed(0x736c6565, 0x70203120, BLANKS, BLANKS, BLANKS);
        for (int i = 2; i <= 20; i++) {
            due("feed", x.feed(BLANKS, BLANKS, BLANKS, BLANKS, BLANKS), 20 * i);
        }
        due("feed at 400", x.feed(-1, -1, -1, -1, -1), NONE);
        x.end(381);
        due("feed at 381", x.feed(-1, -1, -1, -1, -1), NONE);
        due("count(15)", x.count(15), 381);
        x.end(380);
        due("feed at 380", x.feed(BLANKS, BLANKS, BLANKS, BLANKS, BLANKS), 400);
        due("'sleep 1' and blanks", x.rule(), 0);
    }

    // ---- 3: end

    static void endFirstBytes() {
        says(3, "The TAPE has its first n bytes alone: n");
        SleepersPay x = new SleepersPay();
        due("end(0) of none", x.end(0), 0);
        x.feed(0x736c6565, 0x7020317a, -1, -1, -1);
        due("all of them", x.end(20), 20);
        due("end(7)", x.end(7), 7);
        due("count(15)", x.count(15), 7);
        due("'sleep 1'", x.rule(), 0);
        x.feed(1, 2, 3, 4, 5);
        due("none of them", x.end(0), 0);
        due("count(15)", x.count(15), 0);
    }

    static void endNotSoMany() {
        says(3, "NONE, and nothing happens, if it has not so many");
        due("end(1) of none", new SleepersPay().end(1), NONE);
        Edge.nothing("end(8) of 7", x -> x.end(8), NONE);
        Edge.nothing("end(400) of 7", x -> x.end(400), NONE);
        Edge.nothing("end(greatest)", x -> x.end(Integer.MAX_VALUE), NONE);
    }

    static void endBelowNought() {
        says(3, "or n is below 0");
        Edge.nothing("end(-1)", x -> x.end(-1), NONE);
        Edge.nothing("end(least)", x -> x.end(Integer.MIN_VALUE), NONE);
    }

    // ---- 4: street

    static void streetTapeIsEmptyThen() {
        says(4, "The TAPE, which is empty then, is the STREET in place of the one there was");
        SleepersPay x = Edge.busy();
        Telling.tape(x, "street 2;person 1 2;person 0 0;lamp 9 1;lit 0 1 1");
        due("street()", x.street(), 2);
        due("TAPE", x.count(15), 0);
        due("HOURS", x.count(0), 2);
        due("WORKS", x.count(2), 0);
        due("LAMPS", x.count(3), 1);
        due("LITS", x.count(4), 1);
        due("NEED", x.person(0, 0), 1);
        due("a third PERSON", x.person(2, 0), NONE);
        due("a second LAMP", x.lamp(1, 0), NONE);
        due("who worked does not", x.person(1, 5), 0);
        due("what burnt does not", x.count(10), 0);
    }

    static void streetBeginsAnew() {
        says(4, "NIGHT 0, HOUR 0, no FACTS, nothing to be UNDONE");
        SleepersPay x = Edge.busy();
        x.force(NONE);
        Edge.hours(x, 3);
        due("DEBT ahead of it", x.person(1, 4), 3);
        due("the town ahead of it", x.hour() + x.owed(NONE, 0), 30);
        x.light(0, false);
        x.light(0, true);
        x.light(1, false);
        x.sleep(2, true);
        x.hour();
        due("slept ahead of it", x.person(2, 3), 1);
        Telling.street(x, Edge.A);
        due("NIGHT", x.count(8), 0);
        due("HOUR", x.count(7), 0);
        due("FACTS", x.count(12), 0);
        due("ACTS", x.count(13), 0);
        due("undo()", x.undo(), NONE);
        due("who sleeps", x.count(9), 0);
        due("LAMPS as told", x.count(10), 1);
        due("LAMPS as told", x.lives(1, 4, 0, 1), 96);
        due("owed(NONE, 0)", x.owed(NONE, 0), 0);
        for (int p = 0; p < 3; p++) {
            due("slept", x.person(p, 3), 0);
            due("DEBT", x.person(p, 4), 0);
            due("owed(" + p + ", 0)", x.owed(p, 0), 0);
        }
    }

    static void streetForceAndSeedStay() {
        says(4, "the RULE IN FORCE and x stay");
        SleepersPay x = Edge.busy();
        Telling.street(x, Edge.A);
        due("IN FORCE", x.count(6), 0);
        due("x", x.count(14), 77);
        due("RULES", x.count(5), 2);
    }

    static void streetPeople() {
        says(4, "how many PEOPLE");
        Edge.goodStreet("street 2", 0);
        Edge.goodStreet("street 2;person 0 0", 1);
        Edge.goodStreet(FULL, 5);
    }

    static void streetFaultAllStays() {
        says(4, "-2 - its FAULT, and all stays");
        SleepersPay x = Edge.busy();
        x.end(0);
        due("an empty TAPE", x.street(), -3);
        Telling.tape(x, "street 2;person 0 0;lamp 9 1;lit 0 0 1;work 1 0 0");
        due("a FAULT far behind", x.street(), Telling.fault(44, 1));
        SleepersPay same = Edge.busy();
        same.end(0);
        Edge.alike("street()", x, same);
    }

    static void streetFaultTapeIsEmptyThen() {
        says(4, "The TAPE, which is empty then");
        SleepersPay x = new SleepersPay();
        Telling.street(x, "street 1");
        due("behind a FAULT", x.count(15), 0);
        due("feed", x.feed(0, 0, 0, 0, 0), 20);
    }

    // ---- 5: rule

    static void ruleTapeIsEmptyThen() {
        says(5, "The TAPE, which is empty then, is a RULE");
        SleepersPay x = new SleepersPay();
        Telling.rule(x, "sleep 1");
        due("behind a RULE", x.count(15), 0);
        Telling.rule(x, "sleep");
        due("behind a FAULT", x.count(15), 0);
        due("RULES", x.count(5), 1);
    }

    static void ruleNumbers() {
        says(5, "its number");
        SleepersPay x = new SleepersPay();
        for (int i = 0; i < 6; i++) {
            due("rule()", Telling.rule(x, "sleep 1"), i);
            due("RULES", x.count(5), i + 1);
        }
    }

    static void ruleFaultMakesNone() {
        says(5, "-2 - its FAULT");
        SleepersPay x = Edge.busy();
        x.end(0);
        due("an empty TAPE", x.rule(), -3);
        Telling.tape(x, "sleep 1 if 1=1;sleep 1 if 1=");
        due("a FAULT at the end", x.rule(), Telling.fault(28, 0));
        SleepersPay same = Edge.busy();
        same.end(0);
        Edge.alike("rule()", x, same);
    }

    private static SleepersPay withSixRules() {
        SleepersPay x = new SleepersPay();
        for (int i = 0; i < 6; i++) {
            Telling.rule(x, "sleep 1");
        }
        return x;
    }

    static void ruleSeventh() {
        says(5, "NONE, and nothing happens: there are 6");
        SleepersPay x = withSixRules();
        due("a seventh", Telling.rule(x, "sleep 1"), NONE);
        due("RULES", x.count(5), 6);
        due("the TAPE stays", x.count(15), 7);
        due("with a FAULT too", Telling.rule(x, "sleep"), NONE);
        due("the TAPE stays", x.count(15), 5);
        due("force(6)", x.force(6), -2);
    }

    // ---- 6: force

    static void forceWhichWas() {
        says(6, "A RULE is IN FORCE (NONE: none): which was");
        SleepersPay x = withSixRules();
        due("force(5)", x.force(5), NONE);
        due("count(6)", x.count(6), 5);
        due("force(0)", x.force(0), 5);
        due("force(0)", x.force(0), 0);
        due("force(NONE)", x.force(NONE), 0);
        due("count(6)", x.count(6), NONE);
        due("force(NONE)", x.force(NONE), NONE);
    }

    static void forceNoneSuch() {
        says(6, "-2, and nothing happens, if there is none such");
        Edge.nothing("force(2) of 2", x -> x.force(2), -2);
        Edge.nothing("force(-2)", x -> x.force(-2), -2);
        Edge.nothing("force(greatest)", x -> x.force(Integer.MAX_VALUE), -2);
        Edge.nothing("force(least)", x -> x.force(Integer.MIN_VALUE), -2);
        due("force(0) of none", new SleepersPay().force(0), -2);
    }

    // ---- Terms: a STREET

    static void textOf400Bytes() {
        says(TERMS, "a text of at most 400 bytes");
        Edge.goodStreet("street 2" + " ".repeat(392), 0);
        Edge.goodStreet(" ".repeat(381) + "street 2;person 2 1", 1);
        badStreet(";".repeat(400), 0, 0);
        badStreet("1;".repeat(200), 0, 0);
        badStreet("street 2" + " ".repeat(391) + ";", 400, 0);
    }

    static void clausesWithSemicolonsBetween() {
        says(TERMS, "CLAUSE { ; CLAUSE }");
        badStreet("", 0, 0);
        badStreet(";street 2", 0, 0);
        badStreet("street 2;", 9, 0);
        badStreet("street 2;;person 0 0", 9, 0);
        badStreet("street 2 person 0 0", 9, 0);
    }

    static void clauses40() {
        says(TERMS, "40 at most");
        Edge.goodStreet(FULL, 5);
        badStreet(FULL + ";person 0 0", 277, 4);
        badStreet(FULL + ";work 0 0 0", 277, 4);
        badStreet(FULL + ";lamp 9 1", 277, 4);
        badStreet(FULL + ";lit 0 0 0", 277, 4);
        badStreet(FULL + ";street 2", 277, 4);
    }

    static void hoursOfANight() {
        says(TERMS, "HOURS of a NIGHT, 2 to 10");
        badStreet("street 0", 7, 1);
        badStreet("street 1", 7, 1);
        Edge.goodStreet("street 2", 0);
        Edge.goodStreet("street 10", 0);
        badStreet("street 11", 7, 1);
        badStreet("street 99999", 7, 1);
    }

    static void streetOnceAndFirst() {
        says(TERMS, "once, the first CLAUSE");
        badStreet("street 2;street 2", 9, 4);
        badStreet("street 2;person 0 0;street 2", 20, 4);
        badStreet("person 0 0;street 2", 0, 4);
    }

    static void needs() {
        says(TERMS, "NEED: HOURS of sleep in a NIGHT, 0 to HOURS");
        due("none", Edge.street("street 2;person 0 0").person(0, 0), 0);
        due("all of 2", Edge.street("street 2;person 2 0").person(0, 0), 2);
        due("all of 10", Edge.street("street 10;person 10 0").person(0, 0), 10);
        badStreet("street 2;person 3 0", 16, 1);
        badStreet("street 10;person 11 0", 17, 1);
    }

    static void worths() {
        says(TERMS, "WORTH of an HOUR of it, 0 to 60");
        due("nothing", Edge.street("street 2;person 0 0").person(0, 1), 0);
        due("60", Edge.street("street 2;person 0 60").person(0, 1), 60);
        badStreet("street 2;person 0 61", 18, 1);
    }

    static void workOfWhoWasTold() {
        says(TERMS, "work NUMBER NUMBER NUMBER (a PERSON that was told");
        Edge.goodStreet("street 2;person 0 0;person 0 0;work 1 0 0;work 0 0 0", 2);
        badStreet("street 2;work 0 0 0;person 0 0", 14, 1);
        badStreet("street 2;person 0 0;work 1 0 0;person 0 0", 25, 1);
        badStreet("street 2" + ";person 0 0".repeat(5) + ";work 5 0 0", 69, 1);
    }

    static void workHours() {
        says(TERMS, "the first, the last HOUR, 0 on, not below the first");
        SleepersPay x = Edge.street("street 3;person 0 0;person 0 0;person 0 0;work 0 0 0;work 1 2 2;work 2 0 2");
        for (int hour = 0; hour < 3; hour++) {
            due("the first HOUR alone", x.person(0, 5), hour == 0 ? 1 : 0);
            due("the last HOUR alone", x.person(1, 5), hour == 2 ? 1 : 0);
            due("all HOURS", x.person(2, 5), 1);
            x.hour();
        }
        badStreet("street 3;person 0 0;work 0 3 3", 27, 1);
        badStreet("street 3;person 0 0;work 0 0 3", 29, 1);
        badStreet("street 3;person 0 0;work 0 2 1", 29, 1);
        badStreet("street 3;person 0 0;work 0 1 0", 29, 1);
    }

    static void workersCantSleep() {
        says(TERMS, "who works can't sleep");
        SleepersPay x = Edge.street("street 2;person 0 0;work 0 0 0");
        Edge.inForce(x, "sleep 1");
        due("sleep(0, true)", x.sleep(0, true) ? 1 : 0, 0);
        due("in the HOUR of work", x.hour(), 0);
        due("in the HOUR behind", x.hour(), 1);
    }

    static void lampsWhose() {
        says(TERMS, "whose: a PERSON that was told, or 9: the town's");
        due("the last told", Edge.street("street 2;person 0 0;person 0 0;lamp 1 1").lamp(0, 0), 1);
        due("the town", Edge.street("street 2;lamp 9 1").lamp(0, 0), 9);
        badStreet("street 2;lamp 0 1", 14, 1);
        badStreet("street 2;person 0 0;lamp 1 1;person 0 0", 25, 1);
        badStreet("street 2" + ";person 0 0".repeat(5) + ";lamp 5 1", 69, 1);
        badStreet("street 2" + ";person 0 0".repeat(5) + ";lamp 8 1", 69, 1);
        badStreet("street 2;lamp 10 1", 14, 1);
    }

    static void lampCosts() {
        says(TERMS, "COST of an HOUR, 1 to 60");
        badStreet("street 2;lamp 9 0", 16, 1);
        due("1", Edge.street("street 2;lamp 9 1").lamp(0, 1), 1);
        due("60", Edge.street("street 2;lamp 9 60").lamp(0, 1), 60);
        badStreet("street 2;lamp 9 61", 16, 1);
    }

    static void litOfWhatWasTold() {
        says(TERMS, "lit NUMBER NUMBER NUMBER (a LAMP that was told");
        Edge.goodStreet("street 2;lamp 9 1;lamp 9 1;lit 1 0 0;lit 0 0 0", 0);
        badStreet("street 2;lit 0 0 0;lamp 9 1", 13, 1);
        badStreet("street 2;lamp 9 1;lit 1 0 0;lamp 9 1", 22, 1);
        badStreet("street 2;person 0 0;person 0 0;lamp 9 1;lit 1 0 0", 44, 1);
        badStreet("street 2" + ";lamp 9 1".repeat(5) + ";lit 5 0 0", 58, 1);
    }

    static void litHours() {
        says(TERMS, "the first, the last HOUR, likewise, of each NIGHT");
        SleepersPay x = Edge.street("street 3;lamp 9 1;lamp 9 1;lamp 9 1;lit 0 0 0;lit 1 2 2;lit 2 0 2");
        int[] burning = {5, 4, 6};
        for (int hour = 0; hour < 6; hour++) {
            due("LAMPS in HOUR " + hour, x.count(10), burning[hour % 3]);
            x.hour();
        }
        badStreet("street 3;lamp 9 1;lit 0 3 3", 24, 1);
        badStreet("street 3;lamp 9 1;lit 0 0 3", 26, 1);
        badStreet("street 3;lamp 9 1;lit 0 2 1", 26, 1);
        badStreet("street 3;lamp 9 1;lit 0 1 0", 26, 1);
    }

    static void people5() {
        says(TERMS, "PEOPLE 0 to 4");
        String five = "street 2;person 0 0;person 0 1;person 0 2;person 0 3;person 0 4";
        SleepersPay x = Edge.street(five);
        due("the first told", x.person(0, 1), 0);
        due("the last told", x.person(4, 1), 4);
        due("person(5, 1)", x.person(5, 1), NONE);
        badStreet(five + ";person 0 0", 64, 4);
    }

    static void works8() {
        says(TERMS, "WORKS 0 to 7");
        String eight = "street 2;person 0 0" + ";work 0 0 0".repeat(7) + ";work 0 1 1";
        SleepersPay x = Edge.street(eight);
        due("count(2)", x.count(2), 8);
        x.hour();
        due("the last told", x.person(0, 5), 1);
        badStreet(eight + ";work 0 0 0", 108, 4);
    }

    static void lamps5() {
        says(TERMS, "LAMPS 0 to 4");
        String five = "street 2;lamp 9 1;lamp 9 2;lamp 9 3;lamp 9 4;lamp 9 5";
        SleepersPay x = Edge.street(five);
        due("the first told", x.lamp(0, 1), 1);
        due("the last told", x.lamp(4, 1), 5);
        due("lamp(5, 1)", x.lamp(5, 1), NONE);
        badStreet(five + ";lamp 9 1", 54, 4);
    }

    static void lits8() {
        says(TERMS, "LITS 0 to 7");
        String eight = "street 2;lamp 9 1" + ";lit 0 0 0".repeat(7) + ";lit 0 1 1";
        SleepersPay x = Edge.street(eight);
        due("count(4)", x.count(4), 8);
        x.hour();
        due("the last told", x.count(10), 1);
        badStreet(eight + ";lit 0 0 0", 98, 4);
    }

    static void inTheOrderTold() {
        says(TERMS, "in the order told");
        SleepersPay x = Edge.street("street 2;lamp 9 1;person 0 10;lamp 0 2;person 0 20;lit 1 0 0;work 0 0 0;lamp 1 3");
        due("the second PERSON", x.person(1, 1), 20);
        due("the second LAMP", x.lamp(1, 1), 2);
        due("the third LAMP", x.lamp(2, 0), 1);
        due("LAMPS", x.count(10), 2);
    }

    static void streetBegins() {
        says(TERMS, "It is NIGHT 0, HOUR 0; all are awake");
        SleepersPay x = Edge.street(FULL);
        due("NIGHT", x.count(8), 0);
        due("HOUR", x.count(7), 0);
        due("who sleeps", x.count(9), 0);
    }

    // ---- Terms: a RULE

    static void rules6() {
        says(TERMS, "RULES 0 to 5");
        SleepersPay x = withSixRules();
        due("force(5)", x.force(5), NONE);
        due("force(6)", x.force(6), -2);
    }

    static void ruleTextLikewise() {
        says(TERMS, "texts likewise");
        Edge.goodRule("sleep 1" + " ".repeat(393));
        Edge.goodRule("sleep" + " ".repeat(394) + "1");
        badRule("sleep 1" + " ".repeat(392) + ";", 400, 0);
        badRule("sleep 1 if 1" + " ".repeat(387) + "<", 400, 0);
        badRule("sleep 1 if 1" + " ".repeat(387) + ">", 400, 0);
        badRule("", 0, 0);
        badRule(";sleep 1", 0, 0);
        badRule("sleep 1;", 8, 0);
        badRule("sleep 1;;sleep 1", 8, 0);
        badRule("sleep 1 sleep 1", 8, 0);
    }

    static void clauses12() {
        says(TERMS, "12 CLAUSES at most");
        Edge.goodRule("sleep 1" + ";sleep 1".repeat(11));
        badRule("sleep 1" + ";sleep 1".repeat(12), 96, 4);
        SleepersPay x = Edge.street("street 2;person 0 0");
        Edge.inForce(x, "sleep 0 if 1=2;".repeat(11) + "sleep 1");
        due("the twelfth is asked", x.hour(), 1);
    }

    static void ruleClause() {
        says(TERMS, "sleep SUM [ if TEST ]");
        badRule("sleep", 5, 0);
        badRule("sleep if 1=1", 6, 0);
        badRule("sleep 1 if", 10, 0);
        badRule("sleep 1 if ;sleep 1", 11, 0);
        badRule("sleep 1 if 1=1 if 1=1", 15, 0);
        badRule("1", 0, 0);
        badRule("if 1=1", 0, 0);
    }

    static void parts() {
        says(TERMS, "TEST: PART { or PART }");
        badRule("sleep 1 if or 1=1", 11, 0);
        badRule("sleep 1 if 1=1 or", 17, 0);
        badRule("sleep 1 if 1=1 or or 1=1", 18, 0);
        sleepsBy("sleep 1 if 1=2 or 1=2 or 1=1", 1);
        sleepsBy("sleep 1 if 1=1 or 1=1 and 1=2", 1);
    }

    static void factsInParts() {
        says(TERMS, "PART: FACT { and FACT }");
        badRule("sleep 1 if and 1=1", 11, 0);
        badRule("sleep 1 if 1=1 and", 18, 0);
        badRule("sleep 1 if 1=1 and or 1=1", 19, 0);
        badRule("sleep 1 if 1=1 1=1", 15, 0);
        sleepsBy("sleep 1 if 1=1 and 1=1 and 1=2", 0);
    }

    static void bracketsAreSigns() {
        says(TERMS, "FACT: not FACT | [ TEST ] (these brackets are signs) | SUM SIGN SUM");
        badRule("sleep 1 if []", 12, 0);
        badRule("sleep 1 if [1=1", 15, 0);
        badRule("sleep 1 if 1=1]", 14, 0);
        badRule("sleep 1 if [1=1]]", 16, 0);
        badRule("sleep 1 if [1]=1", 13, 0);
        badRule("sleep 1 if not", 14, 0);
        badRule("sleep 1 if not 1", 16, 0);
        badRule("sleep 1 [if 1=1]", 8, 0);
        sleepsBy("sleep 1 if not [1=2 or 1=2]", 1);
        sleepsBy("sleep 1 if not 1=1", 0);
        sleepsBy("sleep 1 if not not 1=1", 1);
        sleepsBy("sleep 1 if not not 1=2", 0);
        sleepsBy("sleep 1 if not 1=2 and 1=2", 0);
    }

    static void signs() {
        says(TERMS, "SIGN one of < <= = >= >");
        sleepsBy("sleep 1 if 1 < 1", 0);
        sleepsBy("sleep 1 if 1 < 2", 1);
        sleepsBy("sleep 1 if 1 <= 1", 1);
        sleepsBy("sleep 1 if 2 <= 1", 0);
        sleepsBy("sleep 1 if 1 = 1", 1);
        sleepsBy("sleep 1 if 1 = 2", 0);
        sleepsBy("sleep 1 if 1 >= 1", 1);
        sleepsBy("sleep 1 if 1 >= 2", 0);
        sleepsBy("sleep 1 if 1 > 1", 0);
        sleepsBy("sleep 1 if 2 > 1", 1);
        sleepsBy("sleep 1 if 1 < 2 and 2 <= 2 and 2 = 2 and 2 >= 2 and 2 > 1", 1);
        badRule("sleep 1 if 1 => 1", 14, 0);
        badRule("sleep 1 if 1 =< 1", 14, 0);
        badRule("sleep 1 if 1 == 1", 14, 0);
        badRule("sleep 1 if 1 <> 1", 14, 0);
        badRule("sleep 1 if 1 ! 1", 13, 0);
        badRule("sleep 1 if 1=1=1", 14, 0);
    }

    static void sumsOfTerms() {
        says(TERMS, "SUM: TERM { (+ or -) TERM }");
        badRule("sleep +1", 6, 0);
        badRule("sleep -1", 6, 0);
        badRule("sleep 1+", 8, 0);
        badRule("sleep 1+-1", 8, 0);
        sleepsBy("sleep 2-1-1", 0);
        sleepsBy("sleep 1-0", 1);
    }

    static void termsOfValues() {
        says(TERMS, "TERM: VALUE { (* or / or %) VALUE }");
        badRule("sleep *1", 6, 0);
        badRule("sleep 1*", 8, 0);
        badRule("sleep 1*/1", 8, 0);
        badRule("sleep 1%-1", 8, 0);
        sleepsBy("sleep 8/4/2", 1);
        sleepsBy("sleep 8/4*2-3", 1);
        sleepsBy("sleep 1+2*3-6", 1);
    }

    static void digits5() {
        says(TERMS, "NUMBER (1 to 5 digits, as far as digits go on)");
        Edge.goodRule("sleep 99999");
        Edge.goodRule("sleep 00000");
        badRule("sleep 100000", 6, 1);
        badRule("sleep 000001", 6, 1);
        badRule("sleep 12345 6", 12, 0);
        badRule("sleep 12345:", 11, 0);
        badRule("sleep 00009 00000", 12, 0);
        Edge.goodStreet("street 00002;person00001 00060", 1);
        badStreet("street 000002", 7, 1);
        badStreet("street 2;person 0 000000", 18, 1);
        badStreet("street 99999999999999999999", 7, 1);
        badStreet("street 4294967298", 7, 1);
        sleepsBy("sleep 99999-99998", 1);
    }

    static void wordsOfSmallLetters() {
        says(TERMS, "WORDS (small letters, as far as these go on)");
        badRule("sleepneed", 0, 0);
        badRule("sleep needs", 6, 0);
        badRule("sleep nee", 6, 0);
        badRule("sleep needa", 6, 0);
        badRule("sleep needz", 6, 0);
        badRule("sleep need`", 10, 0);
        badRule("sleep need{", 10, 0);
        badRule("sleep Need", 6, 0);
        badRule("sleep neeD", 6, 0);
        badRule("sleep needs 123456", 6, 0);
        badStreet("streets 2", 0, 0);
        badStreet("stree 2", 0, 0);
        badStreet("Street 2", 0, 0);
        badStreet("street 2;persona 0 0", 9, 0);
        Edge.goodRule("sleep1if need=1and need>0or not1=1");
    }

    static void wordsOfOthersTexts() {
        says(TERMS, "a byte or WORD that can't stand there");
        badRule("street 2", 0, 0);
        badRule("sleep street", 6, 0);
        badRule("sleep sleep", 6, 0);
        badRule("sleep lit", 6, 0);
        badStreet("sleep 1", 0, 0);
        badStreet("street need", 7, 0);
        badStreet("need 2", 0, 0);
        badStreet("2", 0, 0);
        badStreet("street 2;9", 9, 0);
        badStreet("street 2;person 0 0 0", 20, 0);
        badStreet("street 2+1", 8, 0);
    }

    static void wordsOfAPerson() {
        says(TERMS, "of a PERSON: person, hour, night, need, worth");
        SleepersPay x = Edge.street("street 2;person 0 0;person 2 60");
        Edge.inForce(x, "sleep 1 if person = 0 and need = 0 and worth = 0 or person = 1 and need = 2 and worth = 60");
        due("the least and the most", x.hour(), 2);
        Edge.inForce(x, "sleep 1 if hour = 1 and night = 0 or hour = 0 and night = 1");
        due("the last HOUR of a NIGHT", x.hour(), 2);
        due("the first HOUR of the next", x.hour(), 2);
    }

    static void wordLeft() {
        says(TERMS, "left (HOURS of it still, this one too)");
        SleepersPay x = Edge.street("street 2;person 0 0");
        Edge.inForce(x, "sleep 1 if hour = 0 and left = 2 or hour = 1 and left = 1");
        due("in the first HOUR", x.hour(), 1);
        due("in the last HOUR", x.hour(), 1);
    }

    static void wordSlept() {
        says(TERMS, "slept (HOURS in this NIGHT)");
        SleepersPay x = Edge.street("street 2;person 0 0");
        Edge.inForce(x, "sleep 1 if slept = hour");
        for (int i = 0; i < 4; i++) {
            due("0 again behind the last", x.hour(), 1);
        }
    }

    static void wordCost() {
        says(TERMS, "cost (of all LAMPS that burn now)");
        SleepersPay x = Edge.street("street 3;person 0 0;lamp 9 60;lamp 0 60;lit 0 0 0;lit 1 0 1");
        Edge.inForce(x, "sleep 1 if cost = 120 and hour = 0 or cost = 60 and hour = 1 or cost = 0 and hour = 2");
        for (int i = 0; i < 3; i++) {
            due("in HOUR " + i, x.hour(), 1);
        }
    }

    static void wordOthers() {
        says(TERMS, "others (others asleep)");
        SleepersPay x = Edge.street("street 2" + ";person 0 0".repeat(5));
        for (int p = 0; p < 5; p++) {
            x.sleep(p, true);
        }
        Edge.inForce(x, "sleep 1 if others = 4");
        due("not oneself", x.hour(), 5);
    }

    static void wordAsleep() {
        says(TERMS, "asleep (1, or 0)");
        SleepersPay x = Edge.street("street 3;person 0 0");
        Edge.inForce(x, "sleep 1 - asleep");
        due("0: awake", x.hour(), 1);
        due("1: asleep", x.hour(), 0);
    }

    static void wordOwed() {
        says(TERMS, "owed (what they owe, whole, downwards)");
        SleepersPay x = Edge.street("street 4;person 0 0;person 0 0;person 0 0;lamp 9 5;lit 0 0 3");
        Edge.inForce(x, "sleep 1 if owed = 0 and hour = 0 or owed = 1 and hour = 1 or owed = 3 and hour = 2");
        due("nothing", x.hour(), 3);
        due("5/3", x.hour(), 3);
        due("10/3", x.hour(), 3);
        due("a whole 5", x.hour(), 0);
        due("owed(0, 0)", x.owed(0, 0), 5);
    }

    static void wordDebt() {
        says(TERMS, "debt (HOURS of sleep they lack from NIGHTS ahead)");
        SleepersPay x = Edge.street("street 2;person 2 0");
        Edge.inForce(x, "sleep 1 if debt = 2 and night = 1");
        due("not of this NIGHT", x.hour(), 0);
        due("not of this NIGHT", x.hour(), 0);
        due("of the last", x.hour(), 1);
    }

    static void wordOwn() {
        says(TERMS, "own (COST of their own LAMPS that burn now)");
        SleepersPay x = Edge.street("street 2;person 0 0;person 0 0;lamp 0 1;lamp 1 2;lamp 9 4;lamp 0 8;lamp 1 16;"
            + "lit 0 0 1;lit 1 0 1;lit 2 0 1;lit 3 0 1");
        Edge.inForce(x, "sleep 1 if person = 0 and own = 9 or person = 1 and own = 2");
        due("nor the town's, nor what does not burn", x.hour(), 2);
    }

    static void dividesTowardsNought() {
        says(TERMS, "/ is towards 0");
        sleepsBy("sleep 1 if 49 / 10 = 4", 1);
        sleepsBy("sleep 1 if " + MINUS_49 + " / 10 + 4 = 0", 1);
        sleepsBy("sleep 1 if 1 / 2 = 0", 1);
    }

    static void remains() {
        says(TERMS, "% its rest");
        sleepsBy("sleep 1 if 49 % 10 = 9", 1);
        sleepsBy("sleep 1 if " + MINUS_49 + " % 10 + 9 = 0", 1);
        sleepsBy("sleep 1 if 5 % 5 = 0", 1);
    }

    static void dividesByNought() {
        says(TERMS, "both 0 by 0");
        sleepsBy("sleep 1 if 7 / 0 = 0 and 7 % 0 = 0 and 0 / 0 = 0 and 0 % 0 = 0", 1);
        sleepsBy("sleep 1 if 7 / slept = 0 and 7 % slept = 0", 1);
    }

    static void goesRound() {
        says(TERMS, "all goes round in 64 bits");
        sleepsBy("sleep 1 if " + MINUS_49 + " + 49 = 0", 1);
        sleepsBy("sleep 65536*65536*65536*65536", 0);
        sleepsBy("sleep 65536*65536*65536*65536+1", 1);
        sleepsBy("sleep " + LEAST, 0);
        sleepsBy("sleep " + LEAST + " - 1", 1);
        sleepsBy("sleep 32768*32768*32768*32768*4", 1);
        sleepsBy("sleep 32768*32768*32768*32768*4+32768*32768*32768*32768*4", 0);
        sleepsBy("sleep 65536*32768", 1);
    }

    static void blanksBetween() {
        says(TERMS, "Blanks (32) stand between as one likes");
        Edge.goodRule("   sleep   1   if   [   not   1   <=   2   ]   ");
        Edge.goodRule("sleep1if[not1<=2]");
        Edge.goodStreet("  street  2  ;  person  0  0  ", 1);
        Edge.goodStreet("street2;person0 0", 1);
        badRule("sleep 1 if 1 < = 2", 15, 0);
        badRule("sle ep 1", 0, 0);
        badRule("sleep\t1", 5, 0);
        badRule("sleep\n1", 5, 0);
        badRule("sleep\u00001", 5, 0);
        badRule("sleep\u001f1", 5, 0);
        badRule("sleep!1", 5, 0);
        badRule("sleep\u00a01", 5, 0);
    }

    static void deep10() {
        says(TERMS, "[ and not lie within one another 10 deep at most");
        Edge.goodRule("sleep 1 if " + "[".repeat(10) + "1=1" + "]".repeat(10));
        badRule("sleep 1 if " + "[".repeat(11) + "1=1" + "]".repeat(11), 21, 2);
        Edge.goodRule("sleep 1 if " + "not ".repeat(10) + "1=1");
        badRule("sleep 1 if " + "not ".repeat(11) + "1=1", 51, 2);
        Edge.goodRule("sleep 1 if " + "not[".repeat(5) + "1=1" + "]".repeat(5));
        badRule("sleep 1 if " + "not[".repeat(5) + "[1=1]" + "]".repeat(5), 31, 2);
        badRule("sleep 1 if " + "[".repeat(10) + "1=1 and not 1=1" + "]".repeat(10), 29, 2);
        Edge.goodRule("sleep 1 if " + "[1=1] and ".repeat(12) + "not 1=1 or not 1=1");
        Edge.goodRule("sleep 1 if [".concat("[".repeat(9) + "1=1" + "]".repeat(9)) + "or not 1=1]");
    }

    static void values60() {
        says(TERMS, "at most 60 VALUES (of SUMS) and FACTS made of a SIGN, together");
        Edge.goodRule("sleep 1" + "+1".repeat(59));
        badRule("sleep 1" + "+1".repeat(60), 126, 3);
        Edge.goodRule("sleep 1" + "*1".repeat(59));
        badRule("sleep 1" + "*1".repeat(59) + "*need", 126, 3);
        Edge.goodRule("sleep 1" + "+1".repeat(56) + " if 1=1");
        badRule("sleep 1" + "+1".repeat(57) + " if 1=1", 127, 3);
        badRule("sleep 1" + "+1".repeat(58) + " if 1=1", 128, 3);
        badRule("sleep 1" + "+1".repeat(59) + " if 1=1", 129, 3);
        Edge.goodRule("sleep 1" + "+1".repeat(29) + ";sleep 1" + "+1".repeat(29));
        badRule("sleep 1" + "+1".repeat(29) + ";sleep 1" + "+1".repeat(30), 132, 3);
        Edge.goodRule("sleep 1" + "+1".repeat(56) + " if not [not [1=1]]");
        Edge.goodRule("sleep 1 if 1=1" + " and 1=1".repeat(18) + ";sleep 1+1");
        badRule("sleep 1 if 1=1" + " and 1=1".repeat(18) + ";sleep 1+1+1", 169, 3);
        SleepersPay x = new SleepersPay();
        due("61", Telling.rule(x, "sleep 1" + "+1".repeat(60)), Telling.fault(126, 3));
        due("60 in one", Telling.rule(x, "sleep 1" + "+1".repeat(59)), 0);
        due("60 in another", Telling.rule(x, "sleep 1" + "+1".repeat(59)), 1);
    }

    // ---- Terms: FAULTS

    static void faultsFirst() {
        says(TERMS, "FAULTS, the first along the text, 1 + 8 * its place");
        badStreet("street 2;person 3 61;lamp 9 0;", 16, 1);
        badStreet("street 2;person 2 61;lamp 9 0;", 18, 1);
        badStreet("street 2;person 2 60;lamp 9 0;", 28, 1);
        badStreet("street 2;person 2 60;lamp 9 1;", 30, 0);
        badStreet("street 2;person 0 0" + ";work 0 0 0".repeat(8) + ";work 7 9 123456 x", 108, 4);
        badStreet("street 11;street", 7, 1);
        badRule("sleep 123456 if [;sleeps", 6, 1);
        badRule("sleep 12345 if [;sleeps", 16, 0);
        badRule("sleep 1" + "+1".repeat(60) + "+123456+x", 126, 3);
        due("place 0, kind 0", new SleepersPay().street(), -3);
    }

    static void faultsOfTheEnd() {
        says(TERMS, "or the end (behind the last byte)");
        badStreet("street", 6, 0);
        badStreet("street   ", 9, 0);
        badStreet("street 2;person 0", 17, 0);
        badStreet("   ", 3, 0);
        badRule("sleep 1 if 1 <", 14, 0);
        badRule("sleep 1 if 1 <   ", 17, 0);
        badRule("sleep" + " ".repeat(395), 400, 0);
    }

    static void faultsOfNumbers() {
        says(TERMS, "1 a NUMBER of more digits, or not as told");
        badStreet("street 123456", 7, 1);
        badStreet("street  11", 8, 1);
        badStreet("street 2;person 0 0;work 0 0 123456", 29, 1);
        badRule("sleep 1 if 1 = 123456", 15, 1);
    }

    static void faultsTooDeep() {
        says(TERMS, "2 too deep (at the sign that opens, or the word not)");
        badRule("sleep 1 if " + "[".repeat(10) + "  [", 23, 2);
        badRule("sleep 1 if " + "[".repeat(10) + "  not", 23, 2);
        badRule("sleep 1 if " + "[".repeat(10) + "nots", 21, 0);
    }

    static void faultsTooLong() {
        says(TERMS, "3 one VALUE or FACT too many (at its first byte; of a FACT at its SIGN)");
        badRule("sleep 1" + "+1".repeat(59) + " +  12345", 129, 3);
        badRule("sleep 1" + "+1".repeat(59) + " +  person", 129, 3);
        badRule("sleep 1" + "+1".repeat(58) + " if 12345   >= 1", 135, 3);
        badRule("sleep 1" + "+1".repeat(57) + " if 12345   >=   1", 138, 3);
    }

    static void faultsTooMany() {
        says(TERMS, "4 one CLAUSE too many, a second street, another CLAUSE ahead of it, a sixth PERSON or LAMP, "
            + "a ninth WORK or LIT (at its first byte)");
        badRule("sleep 1;".repeat(12) + "  sleep 1", 98, 4);
        badStreet("street 2;  street 2", 11, 4);
        badStreet(" person 0 0;street 2", 1, 4);
        badStreet(" work 0 0 0", 1, 4);
        badStreet(" lamp 9 1", 1, 4);
        badStreet(" lit 0 0 0", 1, 4);
        badStreet("street 2" + ";person 0 0".repeat(5) + ";  person", 66, 4);
        badStreet("street 2" + ";lamp 9 1".repeat(5) + ";  lamp", 56, 4);
        badStreet("street 2;person 0 0" + ";work 0 0 0".repeat(8) + ";  work", 110, 4);
        badStreet("street 2;lamp 9 1" + ";lit 0 0 0".repeat(8) + ";  lit", 100, 4);
    }

    static void faultsOfOnePlace() {
        says(TERMS, "Of one place the least");
        badRule("sleep 1;".repeat(12) + "sleeps 1", 96, 0);
        badRule("sleep 1;".repeat(12), 96, 0);
        badRule("sleep 1" + "+1".repeat(59) + "+123456", 126, 1);
        badRule("sleep 1" + "+1".repeat(59) + "+x", 126, 0);
        badRule("sleep 1" + "+1".repeat(59) + "+", 126, 0);
        badRule("sleep 1" + "+1".repeat(58) + " if 1!1", 128, 0);
        badRule("sleep 1 123456", 8, 0);
        badStreet("street 2 123456", 9, 0);
        badStreet("street 2" + ";person 0 0".repeat(5) + ";persons", 64, 0);
        badStreet("persons 0 0", 0, 0);
    }
}
