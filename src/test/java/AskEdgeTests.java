import java.util.List;
import java.util.function.ToIntFunction;

/** The boundaries of what is asked, of FACTS, DRAWS and IMAGES: promises 15 to 29. */
public final class AskEdgeTests {
    private static final int NONE = Edge.NONE;
    private static final int TERMS = Edge.TERMS;
    private static final int LEAST = Integer.MIN_VALUE;
    private static final int GREATEST = Integer.MAX_VALUE;
    private static final int NO_FRACTION = -1000000;
    private static final String A = Edge.A;
    private static final String FIVE = "street 2" + ";person 1 1".repeat(5) + ";lamp 9 7;lit 0 0 1";
    private static final String NOBODY = "street 2;lamp 9 7;lit 0 0 0";

    public static void main(String[] args) throws Exception {
        Edge.run(AskEdgeTests.class);
    }

    private static void says(int where, String words) {
        Edge.says(where, words);
    }

    private static void due(String call, int got, int want) {
        Edge.due(call, got, want);
    }

    private static void due(String call, boolean got, boolean want) {
        Edge.due(call, got, want);
    }

    // ---- Terms: asking

    static void askedNothingChanges() {
        says(TERMS, "By what is asked nothing changes");
        List<ToIntFunction<SleepersPay>> asks = List.of(x -> x.person(0, 2), x -> x.lamp(0, 2), x -> x.owed(0, 0),
            x -> x.ahead(0, 100, 2), x -> x.cheap(0, 2, 1), x -> x.rest(2), x -> x.dark(1), x -> x.guild(5, 1, 1),
            x -> x.slept(1), x -> x.ask(0), x -> x.nights(0, 8, 3, 0), x -> x.turned(0, 60, 0),
            x -> x.spite(0, 0, 60, 0), x -> x.spite(1, NONE, 60, 1), x -> x.lives(10, 60, 50, 1), x -> x.count(11));
        for (int i = 0; i < asks.size(); i++) {
            Edge.nothing("ask " + i, asks.get(i), asks.get(i).applyAsInt(Edge.busy()));
        }
    }

    static void askedByTheRuleInForce() {
        says(TERMS, "HOURS go on by the RULE IN FORCE");
        SleepersPay x = Edge.street("street 2;person 2 0;lamp 9 7;lit 0 0 1");
        Edge.inForce(x, "sleep 1");
        due("ahead", x.ahead(0, 4, 2), 0);
        due("turned", x.turned(0, 4, 0), -28);
        due("spite", x.spite(0, 0, 1, 0), 7);
        x.force(NONE);
        due("ahead", x.ahead(0, 4, 2), 4);
        due("turned", x.turned(0, 4, 0), 28);
        due("spite", x.spite(0, 0, 1, 0), 0);
    }

    // ---- 15: cheap

    static void cheapOthersStay() {
        says(TERMS, "who sleeps now sleeps in all of them, works not asked");
        SleepersPay x = Edge.street("street 3;person 0 0;person 0 0;work 1 1 2;lamp 9 6;lit 0 0 2");
        due("alone", x.cheap(0, 3, 1), 18);
        x.sleep(1, true);
        due("who works later too", x.cheap(0, 3, 1), 9);
        x.hour();
        due("who sleeps still and works", x.cheap(0, 2, 1), 6);
        due("oneself is not another", x.cheap(1, 0, 2), 1);
    }

    static void cheapLamps() {
        says(TERMS, "LAMPS burn as told and by ACTS");
        SleepersPay x = Edge.street("street 3;person 0 0;lamp 9 6;lamp 9 5;lit 0 1 2");
        due("as told", x.cheap(0, 3, 1), 12);
        x.light(1, true);
        due("LIT", x.cheap(0, 3, 1), 27);
        x.hour();
        x.light(0, false);
        due("OUT", x.cheap(0, 2, 1), 10);
    }

    static void cheapHoursLeft() {
        says(TERMS, "so many HOURS of those left in this NIGHT, in which they don't work");
        SleepersPay x = Edge.street("street 3;person 0 0;person 0 0;work 0 1 1");
        due("all of them", x.cheap(1, 3, 0), 7);
        due("but of work", x.cheap(0, 2, 0), 5);
        x.hour();
        due("this one too", x.cheap(1, 2, 0), 6);
        due("but of work", x.cheap(0, 1, 0), 4);
        x.hour();
        due("the last alone", x.cheap(1, 1, 0), 4);
        x.hour();
        due("the next NIGHT", x.cheap(1, 3, 0), 7);
    }

    static void cheapLeastSet() {
        says(TERMS, "in which it costs them least; of several sets the least as bits (HOUR 0: 1)");
        SleepersPay x = Edge.street("street 4;person 0 0;lamp 9 1;lamp 9 2;lit 0 0 2;lit 1 1 1");
        due("none", x.cheap(0, 0, 0), 0);
        due("the free one", x.cheap(0, 1, 0), 8);
        due("and the first of two alike", x.cheap(0, 2, 0), 9);
        due("and both", x.cheap(0, 3, 0), 13);
        due("all", x.cheap(0, 4, 0), 15);
    }

    static void cheapFraction() {
        says(TERMS, "what it costs as a fraction");
        SleepersPay x = Edge.street(FIVE);
        x.sleep(1, true);
        x.sleep(2, true);
        x.sleep(3, true);
        due("none, above", x.cheap(0, 0, 1), 0);
        due("none, below", x.cheap(0, 0, 2), 1);
        due("above", x.cheap(0, 2, 1), 7);
        due("below, in lowest terms", x.cheap(0, 2, 2), 2);
        x.sleep(4, true);
        due("a fifth", x.cheap(0, 1, 2), 5);
    }

    static void cheapNotSoMany() {
        says(15, "-2: there are not so many");
        SleepersPay x = Edge.street("street 3;person 0 0;person 0 0;work 0 1 1;work 1 0 2");
        for (int what = 0; what < 3; what++) {
            due("of two", x.cheap(0, 3, what), -2);
            due("of none", x.cheap(1, 1, what), -2);
            due("10 of two", x.cheap(0, 10, what), -2);
        }
        due("none of none", x.cheap(1, 0, 0), 0);
    }

    static void cheapWithoutThese() {
        says(15, "CHEAP (k 0 to 10) what 0: the HOURS, as bits, 1: above, 2: below the line");
        SleepersPay x = Edge.street("street 10" + ";person 0 0".repeat(5));
        due("10", x.cheap(4, 10, 0), 1023);
        due("11", x.cheap(4, 11, 0), NONE);
        due("-1", x.cheap(4, -1, 0), NONE);
        due("least", x.cheap(4, LEAST, 0), NONE);
        due("greatest", x.cheap(4, GREATEST, 0), NONE);
    }

    static void cheapNone() {
        says(15, "NONE without these");
        due("without a STREET", new SleepersPay().cheap(0, 0, 0), NONE);
        due("where nobody lives", Edge.street(NOBODY).cheap(0, 0, 0), NONE);
        SleepersPay x = Edge.street(FIVE);
        due("the last", x.cheap(4, 1, 0), 1);
        for (int p : new int[] {LEAST, -1, 5, 32, GREATEST}) {
            due("cheap(" + p + ", 1, 0)", x.cheap(p, 1, 0), NONE);
        }
        for (int what : new int[] {LEAST, -1, 3, GREATEST}) {
            due("cheap(0, 1, " + what + ")", x.cheap(0, 1, what), NONE);
            due("where there are not so many", x.cheap(0, 9, what), NONE);
        }
    }

    // ---- 16: rest

    static void restNotMoreThanWorth() {
        says(TERMS, "each who does would not pay more than WORTH (of what burns now)");
        due("10 by one is 10", Edge.street("street 2;person 0 10;lamp 9 10;lit 0 0 0").rest(2), 1);
        due("10 by one is more than 9", Edge.street("street 2;person 0 9;lamp 9 10;lit 0 0 0").rest(2), 0);
        String two = "street 2;person 0 5;person 0 5;lamp 9 %d;lit 0 0 0";
        due("10 by two is 5", Edge.street(two.formatted(10)).rest(2), 3);
        due("11 by two is more than 5", Edge.street(two.formatted(11)).rest(2), 0);
    }

    static void restWorthOrMore() {
        says(TERMS, "each of them who does not would pay WORTH or more, if they did too");
        due("10 is 10", Edge.street("street 2;person 0 10;lamp 9 10;lit 0 0 0").rest(1), 0);
        due("10 is less than 11", Edge.street("street 2;person 0 11;lamp 9 10;lit 0 0 0").rest(1), 1);
        String two = "street 2;person 0 60;person 0 %d;lamp 9 10;lit 0 0 0";
        due("a half of 10 is 5", Edge.street(two.formatted(5)).rest(1), 1);
        due("a half of 10 is less than 6", Edge.street(two.formatted(6)).rest(1), 3);
    }

    static void restWhoWork() {
        says(TERMS, "sets of those who don't work in this HOUR");
        SleepersPay x = Edge.street("street 2;person 0 60;person 0 60;work 0 0 0;work 1 0 1");
        due("nobody", x.rest(0), 1);
        due("nobody", x.rest(2), 0);
        x.hour();
        due("the first alone", x.rest(0), 1);
        due("the first alone", x.rest(1), 1);
        due("nobody lives there", Edge.street(NOBODY).rest(0), 1);
        due("nobody lives there", Edge.street(NOBODY).rest(1), 0);
    }

    static void restLeastAndGreatest() {
        says(TERMS, "how many; the least as bits; the greatest");
        SleepersPay x = Edge.street("street 2;person 0 0;person 0 0;lamp 9 1");
        due("all are as good", x.rest(0), 4);
        due("of five", Edge.street("street 2" + ";person 0 0".repeat(5)).rest(0), 32);
        due("of five", Edge.street("street 2" + ";person 0 0".repeat(5)).rest(2), 31);
        due("the least", x.rest(1), 0);
        due("the greatest", x.rest(2), 3);
        x.light(0, true);
        due("of what burns now", x.rest(0), 1);
        due("of what burns now", x.rest(2), 0);
    }

    /** Who wakes would join while it pays, and each who joins makes it cheaper: that comes to an end. */
    static void restNoneThereIs() {
        says(16, "(-2: there is none)");
        for (int cost = 1; cost <= 60; cost++) {
            for (int worths = 0; worths < 125; worths++) {
                SleepersPay x = Edge.street("street 2;person 0 " + worths / 25 * 7 + ";person 0 " + worths / 5 % 5 * 6
                    + ";person 0 " + worths % 5 * 5 + ";lamp 9 " + cost + ";lit 0 0 0");
                due("there always is one", x.rest(0) > 0 && x.rest(1) >= 0 && x.rest(2) >= x.rest(1), true);
            }
        }
    }

    static void restOthers() {
        says(16, "NONE for others, or without a STREET");
        SleepersPay x = Edge.street(FIVE);
        for (int what : new int[] {LEAST, -1, 3, GREATEST}) {
            due("rest(" + what + ")", x.rest(what), NONE);
        }
        for (int what = 0; what < 3; what++) {
            due("without a STREET", new SleepersPay().rest(what), NONE);
        }
    }

    // ---- 17: dark

    static void darkNonePaysMore() {
        says(TERMS, "so that all who don't work could sleep, and none would pay more than WORTH");
        String two = "street 2;person 0 5;person 0 9;lamp 9 10;lamp 9 %d;lit 0 0 1;lit 1 0 %d";
        SleepersPay x = Edge.street(two.formatted(1, 1));
        due("11 by two is more than 5", x.dark(0), 1);
        due("the least", x.dark(1), 1);
        x.light(1, false);
        due("10 by two is 5", x.dark(0), 0);
        due("10 by two is 5", x.dark(1), 0);
        due("who works is not asked",
            Edge.street("street 2;person 0 0;person 0 10;work 0 0 0;lamp 9 10;lit 0 0 0").dark(0), 0);
        due("all work", Edge.street("street 2;person 0 0;work 0 0 0;lamp 9 10;lit 0 0 0").dark(0), 0);
        due("35 by five is 7", Edge.street("street 2" + ";person 0 7".repeat(5) + ";lamp 9 35;lit 0 0 0").dark(0), 0);
        due("36 by five is more", Edge.street("street 2" + ";person 0 7".repeat(5) + ";lamp 9 36;lit 0 0 0").dark(0), 1);
        due("nobody lives there", Edge.street(NOBODY).dark(0), 0);
        due("nobody lives there", Edge.street(NOBODY).dark(1), 0);
    }

    static void darkFewest() {
        says(TERMS, "the fewest LAMPS that burn now to be OUT");
        SleepersPay x = Edge.street("street 2;person 0 0" + ";lamp 9 1".repeat(5) + ";lit 0 0 1;lit 1 0 0;lit 2 0 0;"
            + "lit 3 0 0;lit 4 0 1");
        due("all five", x.dark(0), 5);
        due("all five", x.dark(1), 31);
        x.hour();
        due("that burn now", x.dark(0), 2);
        due("that burn now", x.dark(1), 17);
        x.light(0, false);
        x.light(4, false);
        due("none burns", x.dark(0), 0);
        due("one dear, not two cheap",
            Edge.street("street 2;person 0 2;lamp 9 1;lamp 9 1;lamp 9 2;lit 0 0 1;lit 1 0 1;lit 2 0 1").dark(1), 4);
    }

    static void darkLeastSet() {
        says(TERMS, "of several sets the least as bits");
        String three = "street 2;person 0 %d;lamp 9 1;lamp 9 1;lamp 9 1;lit 0 0 1;lit 1 0 1;lit 2 0 1";
        due("one of three", Edge.street(three.formatted(2)).dark(1), 1);
        due("two of three", Edge.street(three.formatted(1)).dark(1), 3);
        SleepersPay x = Edge.street(three.formatted(1));
        x.light(0, false);
        due("one of the last two", x.dark(1), 2);
    }

    static void darkOthers() {
        says(17, "NONE for others, or without a STREET");
        SleepersPay x = Edge.street(FIVE);
        for (int what : new int[] {LEAST, -1, 2, GREATEST}) {
            due("dark(" + what + ")", x.dark(what), NONE);
        }
        due("without a STREET", new SleepersPay().dark(0), NONE);
        due("without a STREET", new SleepersPay().dark(1), NONE);
    }

    // ---- 18: guild

    static void guildNoneWorks() {
        says(TERMS, "the HOURS left in this NIGHT, in which none of them works, in which all of these sleep");
        SleepersPay x = Edge.street("street 4;person 0 0;person 0 0;person 0 0;work 0 1 1;work 1 2 2;work 2 0 3");
        due("both", x.guild(3, 2, 0), 9);
        due("both", x.guild(3, 3, 0), -2);
        x.hour();
        due("both, HOURS left", x.guild(3, 1, 0), 8);
        due("both, HOURS left", x.guild(3, 2, 0), -2);
        due("one", x.guild(1, 2, 0), 12);
        due("with one who works always", x.guild(7, 1, 0), -2);
        due("no HOUR", x.guild(7, 0, 0), 0);
    }

    static void guildOthersAsTheyAre() {
        says(TERMS, "others as they are now");
        SleepersPay x = Edge.street(FIVE);
        x.sleep(0, true);
        x.sleep(4, true);
        due("two with two others", x.guild(6, 1, 1), 7);
        due("two with two others", x.guild(6, 1, 2), 2);
        due("one of the two who sleep", x.guild(1, 1, 1), 7);
        due("one of the two who sleep", x.guild(1, 1, 2), 2);
        due("these two themselves", x.guild(17, 1, 1), 7);
        due("these two themselves", x.guild(17, 1, 2), 1);
        due("all", x.guild(31, 2, 1), 14);
        due("all", x.guild(31, 2, 2), 1);
    }

    static void guildLeast() {
        says(TERMS, "k of them, so that they owe least together: the least set as bits; what it costs them as a fraction");
        SleepersPay x = Edge.street("street 4;person 0 0;person 0 0;lamp 9 1;lamp 9 2;lit 0 0 2;lit 1 1 1");
        due("the free one", x.guild(3, 1, 0), 8);
        due("and the first of two alike", x.guild(3, 2, 0), 9);
        due("all", x.guild(3, 4, 0), 15);
        due("all", x.guild(3, 4, 1), 5);
        due("all", x.guild(3, 4, 2), 1);
        due("nothing, above", x.guild(3, 0, 1), 0);
        due("nothing, below", x.guild(3, 0, 2), 1);
    }

    static void guildNotSoMany() {
        says(18, "-2: there are not so many");
        SleepersPay x = Edge.street("street 2;person 0 0;person 0 0;work 1 1 1");
        for (int what = 0; what < 3; what++) {
            due("of one", x.guild(3, 2, what), -2);
            due("10 of two", x.guild(1, 10, what), -2);
        }
        due("two of two", x.guild(1, 2, 0), 3);
    }

    static void guildKs() {
        says(18, "GUILD (k 0 to 10) what 0: the HOURS, as bits, 1: above, 2: below the line");
        SleepersPay x = Edge.street("street 10" + ";person 0 0".repeat(5));
        due("0", x.guild(31, 0, 0), 0);
        due("10", x.guild(31, 10, 0), 1023);
        due("11", x.guild(31, 11, 0), NONE);
        due("-1", x.guild(31, -1, 0), NONE);
        due("least", x.guild(31, LEAST, 0), NONE);
        due("greatest", x.guild(31, GREATEST, 0), NONE);
        for (int what : new int[] {LEAST, -1, 3, GREATEST}) {
            due("guild(31, 1, " + what + ")", x.guild(31, 1, what), NONE);
        }
    }

    static void guildSets() {
        says(18, "NONE without these (a set, not empty), or a STREET");
        due("without a STREET", new SleepersPay().guild(1, 0, 0), NONE);
        due("without a STREET", new SleepersPay().guild(0, 0, 0), NONE);
        due("where nobody lives", Edge.street(NOBODY).guild(1, 0, 0), NONE);
        due("where nobody lives", Edge.street(NOBODY).guild(0, 0, 0), NONE);
        SleepersPay x = Edge.street(FIVE);
        due("all", x.guild(31, 1, 0), 1);
        for (int set : new int[] {LEAST, -1, 0, 32, 33, 63, GREATEST}) {
            due("guild(" + set + ", 1, 0)", x.guild(set, 1, 0), NONE);
        }
        due("one not told", Edge.street(A).guild(8, 1, 0), NONE);
        due("one not told, too", Edge.street(A).guild(9, 1, 0), NONE);
    }

    // ---- 19: fact

    static void facts10() {
        says(TERMS, "FACTS 0 to 9");
        SleepersPay x = Edge.street(A);
        for (int i = 1; i <= 10; i++) {
            due("fact", x.fact(0, i == 10 ? 2 : 0, 0, 0), i);
        }
        due("the tenth is asked", x.slept(2), 5);
    }

    static void factEleventh() {
        says(19, "-2, and nothing happens, without these, or a STREET, or if there are 10");
        SleepersPay x = Edge.street(A);
        for (int i = 0; i < 10; i++) {
            x.fact(0, 0, 0, 0);
        }
        due("an eleventh", x.fact(1, 0, 0, 0), -2);
        due("FACTS", x.count(12), 10);
        due("it is not asked", x.slept(0), 4);
    }

    static void factOfAPerson() {
        says(19, "A FACT what 0, 1: of a PERSON");
        SleepersPay five = Edge.street(FIVE);
        due("the first", five.fact(0, 0, 0, 0), 1);
        due("the last", five.fact(1, 4, 0, 0), 2);
        due("where nobody lives", Edge.street(NOBODY).fact(0, 0, 0, 0), -2);
        for (int p : new int[] {LEAST, -1, 3, 5, 32, GREATEST}) {
            Edge.nothing("fact(0, " + p + ", 0, 0)", x -> x.fact(0, p, 0, 0), -2);
            Edge.nothing("fact(1, " + p + ", 0, 0)", x -> x.fact(1, p, 0, 0), -2);
        }
    }

    static void factOfANumber() {
        says(19, "2, 3: of a number (0 to 5)");
        SleepersPay one = Edge.street("street 2;person 0 0");
        due("0 at least", one.fact(2, 0, 0, 0), 1);
        due("5 at least", one.fact(2, 5, 0, 0), 2);
        due("0 at most", one.fact(3, 0, 0, 0), 3);
        due("5 at most", one.fact(3, 5, 0, 0), 4);
        for (int number : new int[] {LEAST, -1, 6, GREATEST}) {
            Edge.nothing("fact(2, " + number + ", 0, 0)", x -> x.fact(2, number, 0, 0), -2);
            Edge.nothing("fact(3, " + number + ", 0, 0)", x -> x.fact(3, number, 0, 0), -2);
        }
    }

    static void factOfACost() {
        says(19, "4, 5: of a PERSON, so much (0 to 300), of a COST (0 to 300)");
        for (int what = 4; what <= 5; what++) {
            int w = what;
            SleepersPay y = Edge.street(FIVE);
            due("0 of 0", y.fact(w, 0, 0, 0), 1);
            due("300 of 300", y.fact(w, 4, 300, 300), 2);
            due("0 of 300", y.fact(w, 4, 0, 300), 3);
            for (int wrong : new int[] {LEAST, -1, 301, GREATEST}) {
                Edge.nothing("so much: " + wrong, x -> x.fact(w, 0, wrong, 0), -2);
                Edge.nothing("a COST: " + wrong, x -> x.fact(w, 0, 0, wrong), -2);
            }
            for (int p : new int[] {LEAST, -1, 3, 5, GREATEST}) {
                Edge.nothing("a PERSON: " + p, x -> x.fact(w, p, 0, 0), -2);
            }
        }
    }

    static void factNotAsked() {
        says(19, "the others of the three numbers are not asked");
        SleepersPay x = Edge.street(A);
        due("a PERSON", x.fact(0, 2, LEAST, GREATEST), 1);
        due("a PERSON", x.fact(1, 1, GREATEST, LEAST), 2);
        due("a number", x.fact(2, 2, -1, 301), 3);
        due("a number", x.fact(3, 2, 301, -1), 4);
        due("slept(1)", x.slept(1), 5);
    }

    static void factNone() {
        says(19, "what NONE: there are none then, 0");
        SleepersPay x = Edge.street(A);
        due("of none", x.fact(NONE, 0, 0, 0), 0);
        x.fact(0, 0, 0, 0);
        x.fact(1, 0, 0, 0);
        due("of two", x.fact(NONE, LEAST, -1, 301), 0);
        due("FACTS", x.count(12), 0);
        due("slept(0)", x.slept(0), 8);
        due("again", x.fact(0, 1, 0, 0), 1);
        due("slept(1)", x.slept(1), 2);
        for (int i = 2; i <= 10; i++) {
            x.fact(3, 5, 0, 0);
        }
        due("of ten", x.fact(NONE, 0, 0, 0), 0);
        due("again", x.fact(0, 1, 0, 0), 1);
        due("without a STREET", new SleepersPay().fact(NONE, 0, 0, 0), 0);
    }

    static void factWithoutThese() {
        says(19, "-2, and nothing happens, without these");
        for (int what : new int[] {LEAST, -2, 6, GREATEST}) {
            Edge.nothing("fact(" + what + ", 0, 0, 0)", x -> x.fact(what, 0, 0, 0), -2);
        }
    }

    static void factWithoutAStreet() {
        says(19, "or a STREET");
        SleepersPay x = new SleepersPay();
        for (int what = 0; what < 6; what++) {
            due("fact(" + what + ", 0, 0, 0)", x.fact(what, 0, 0, 0), -2);
        }
        due("FACTS", x.count(12), 0);
    }

    // ---- 20: slept

    private static SleepersPay told(int what, int one, int much, int cost) {
        SleepersPay x = Edge.street(A);
        x.fact(what, one, much, cost);
        return x;
    }

    static void sleptOrNot() {
        says(TERMS, "what 0: a PERSON slept, 1: did not");
        due("the first slept", told(0, 0, 0, 0).slept(2), 1);
        due("the last slept", told(0, 2, 0, 0).slept(2), 4);
        due("the first did not", told(1, 0, 0, 0).slept(3), 1);
        due("the last did not", told(1, 2, 0, 0).slept(3), 4);
        due("half of all", told(1, 2, 0, 0).slept(0), 4);
    }

    static void sleptAtLeast() {
        says(TERMS, "2: at least so many slept");
        int[] sets = {8, 7, 4, 1, 0, 0};
        for (int many = 0; many <= 5; many++) {
            due("at least " + many, told(2, many, 0, 0).slept(0), sets[many]);
        }
    }

    static void sleptAtMost() {
        says(TERMS, "3: at most so many");
        int[] sets = {1, 4, 7, 8, 8, 8};
        for (int many = 0; many <= 5; many++) {
            due("at most " + many, told(3, many, 0, 0).slept(0), sets[many]);
        }
    }

    static void sleptOwedAtMost() {
        says(TERMS, "4: a PERSON slept, and owed for it so much at most");
        due("10 by two is 5", told(4, 0, 5, 10).slept(1), 3);
        due("11 by two is more than 5", told(4, 0, 5, 11).slept(1), 7);
        due("10 by one is 10", told(4, 0, 10, 10).slept(1), 1);
        due("10 by three is more than 3", told(4, 0, 3, 10).slept(0), 0);
        due("10 by three is 4 at most", told(4, 0, 4, 10).slept(1), 7);
        due("a COST of 0", told(4, 0, 0, 0).slept(0), 4);
        due("300 by three", told(4, 0, 100, 300).slept(1), 7);
    }

    static void sleptOwedMore() {
        says(TERMS, "5: slept, and owed more");
        due("10 by two is not more than 5", told(5, 0, 5, 10).slept(0), 1);
        due("11 by two is more than 5", told(5, 0, 5, 11).slept(0), 3);
        due("10 by one is not more than 10", told(5, 0, 10, 10).slept(0), 0);
        due("10 by three is more than 3", told(5, 0, 3, 10).slept(0), 4);
        due("a COST of 0", told(5, 0, 0, 0).slept(0), 0);
        due("they slept", told(5, 2, 0, 1).slept(2), 4);
    }

    static void sleptByAll() {
        says(TERMS, "sets of PEOPLE who can have slept, by all FACTS");
        due("without FACTS", Edge.street(A).slept(0), 8);
        due("without FACTS", Edge.street(FIVE).slept(0), 32);
        due("where nobody lives", Edge.street(NOBODY).slept(0), 1);
        due("where nobody lives", Edge.street(NOBODY).slept(1), 0);
        SleepersPay x = told(0, 0, 0, 0);
        x.fact(1, 1, 0, 0);
        due("two FACTS", x.slept(0), 2);
        x.fact(3, 1, 0, 0);
        due("three FACTS", x.slept(0), 1);
    }

    static void sleptNone() {
        says(20, "1: the least (-2: there is none), 2: who in all, 3: who in none, as bits each (there is none: 0)");
        SleepersPay x = told(0, 0, 0, 0);
        due("the least", x.slept(1), 1);
        due("in all", x.slept(2), 1);
        due("in none", x.slept(3), 0);
        x.fact(1, 2, 0, 0);
        due("in none", x.slept(3), 4);
        x.fact(1, 0, 0, 0);
        due("how many", x.slept(0), 0);
        due("there is none", x.slept(1), -2);
        due("there is none", x.slept(2), 0);
        due("there is none", x.slept(3), 0);
        due("in none: all but the empty set", told(3, 0, 0, 0).slept(3), 7);
        due("in all: the full set", told(2, 3, 0, 0).slept(2), 7);
    }

    static void sleptOthers() {
        says(20, "NONE for others, or without a STREET");
        SleepersPay x = Edge.street(FIVE);
        for (int what : new int[] {LEAST, -1, 4, GREATEST}) {
            due("slept(" + what + ")", x.slept(what), NONE);
        }
        for (int what = 0; what < 4; what++) {
            due("without a STREET", new SleepersPay().slept(what), NONE);
        }
    }

    // ---- 21: ask

    static void askFewest() {
        says(TERMS, "the greater part is fewest, of several the least; how many");
        due("all alike", Edge.street(FIVE).ask(0), 0);
        due("all alike", Edge.street(FIVE).ask(1), 16);
        due("the last parts no worse", told(1, 0, 0, 0).ask(0), 1);
        due("a half of 4", told(1, 0, 0, 0).ask(1), 2);
        due("the part without is the greater", told(3, 1, 0, 0).ask(1), 3);
        due("the part with is the greater", told(2, 2, 0, 0).ask(1), 3);
        due("one set alone", told(2, 3, 0, 0).ask(0), 0);
        due("one set alone", told(2, 3, 0, 0).ask(1), 1);
        SleepersPay x = told(0, 0, 0, 0);
        x.fact(0, 1, 0, 0);
        due("the last alone is not sure", x.ask(0), 2);
        due("the last alone is not sure", x.ask(1), 1);
    }

    static void askNone() {
        says(21, "-2: there are none, or no PEOPLE");
        SleepersPay x = told(2, 4, 0, 0);
        due("there are none", x.ask(0), -2);
        due("there are none", x.ask(1), -2);
        due("no PEOPLE", Edge.street(NOBODY).ask(0), -2);
        due("no PEOPLE", Edge.street(NOBODY).ask(1), -2);
    }

    static void askOthers() {
        says(21, "NONE for others, or without a STREET");
        SleepersPay x = Edge.street(FIVE);
        for (int what : new int[] {LEAST, -1, 2, GREATEST}) {
            due("ask(" + what + ")", x.ask(what), NONE);
            due("where nobody lives", Edge.street(NOBODY).ask(what), NONE);
        }
        due("without a STREET", new SleepersPay().ask(0), NONE);
        due("without a STREET", new SleepersPay().ask(1), NONE);
    }

    // ---- 22: nights

    static void nightsBounds() {
        says(TERMS, "NIGHTS of a PERSON, n of them (1 to 8), a bound (0 to 99)");
        SleepersPay x = Edge.street("street 10;person 10 0;lamp 9 1;lit 0 0 9");
        due("one", x.nights(0, 1, 0, NONE), 10);
        due("eight", x.nights(0, 8, 0, NONE), 80);
        due("a bound of 79", x.nights(0, 8, 79, NONE), 1);
        due("a bound of 99", x.nights(0, 8, 99, NONE), 0);
        due("no HOUR in the first", x.nights(0, 8, 99, 0), 0);
        due("no HOUR in the last", x.nights(0, 8, 99, 7), 0);
        for (int n : new int[] {LEAST, -1, 0, 9, GREATEST}) {
            due("nights(0, " + n + ", 0, NONE)", x.nights(0, n, 0, NONE), -3);
        }
        for (int bound : new int[] {LEAST, -1, 100, GREATEST}) {
            due("nights(0, 1, " + bound + ", NONE)", x.nights(0, 1, bound, NONE), -3);
        }
    }

    static void nightsUpToNeed() {
        says(TERMS, "HOURS they sleep in each (0 to NEED)");
        SleepersPay x = Edge.street("street 4;person 1 0;person 0 0;lamp 9 2;lit 0 0 3");
        Edge.hours(x, 4);
        due("1 a NIGHT can't make up", x.nights(0, 2, 0, NONE), -2);
        due("1 a NIGHT, both", x.nights(0, 2, 1, NONE), 4);
        due("1 a NIGHT, both", x.nights(0, 2, 1, 0), 1);
        due("1 a NIGHT, both", x.nights(0, 2, 1, 1), 1);
        due("who needs none", x.nights(1, 8, 0, NONE), 0);
        due("who needs none", x.nights(1, 8, 0, 7), 0);
    }

    static void nightsBoundAtMost() {
        says(TERMS, "DEBT as it is, NEED of all less what they sleep, is the bound at most in the end");
        SleepersPay x = Edge.street("street 2;person 2 0;lamp 9 2;lit 0 0 1");
        due("2", x.nights(0, 1, 2, NONE), 0);
        due("1", x.nights(0, 1, 1, NONE), 2);
        due("0", x.nights(0, 1, 0, NONE), 4);
        Edge.hours(x, 2);
        due("DEBT, 4", x.nights(0, 1, 4, NONE), 0);
        due("DEBT, 3", x.nights(0, 1, 3, NONE), 2);
        due("DEBT, 2", x.nights(0, 1, 2, NONE), 4);
        due("DEBT, 1", x.nights(0, 1, 1, NONE), -2);
    }

    static void nightsOthersWake() {
        says(TERMS, "if all others wake and LAMPS burn as told");
        SleepersPay x = Edge.street("street 2;person 2 0;person 0 0;lamp 9 2;lamp 9 4;lit 0 0 1");
        x.sleep(1, true);
        x.light(1, true);
        x.light(0, false);
        due("alone, as told", x.nights(0, 1, 0, NONE), 4);
        x.hour();
        due("whole NIGHTS", x.nights(0, 1, 0, NONE), 4);
    }

    static void nightsFirstRow() {
        says(TERMS, "it costs least; of several the first row; what it costs");
        SleepersPay x = Edge.street("street 3;person 3 0;lamp 9 1;lit 0 1 2");
        int[] row = {1, 3, 3};
        due("one is free in each", x.nights(0, 3, 2, NONE), 4);
        for (int night = 0; night < 3; night++) {
            due("NIGHT " + night, x.nights(0, 3, 2, night), row[night]);
        }
        SleepersPay dearer = Edge.street("street 3;person 3 0;lamp 9 1;lamp 9 2;lit 0 1 2;lit 1 2 2");
        int[] even = {1, 2, 2};
        due("a third HOUR is dear", dearer.nights(0, 3, 4, NONE), 2);
        for (int night = 0; night < 3; night++) {
            due("NIGHT " + night, dearer.nights(0, 3, 4, night), even[night]);
        }
        SleepersPay free = Edge.street("street 3;person 3 0");
        int[] last = {0, 0, 1};
        due("nothing", free.nights(0, 3, 8, NONE), 0);
        for (int night = 0; night < 3; night++) {
            due("no more than is due", free.nights(0, 3, 8, night), last[night]);
        }
    }

    static void nightsOfWork() {
        says(TERMS, "who works can't sleep");
        SleepersPay x = Edge.street("street 3;person 3 0;work 0 0 0;lamp 9 1;lamp 9 5;lit 0 1 1;lit 1 2 2");
        due("not in the free HOUR", x.nights(0, 1, 2, NONE), 1);
        due("both others", x.nights(0, 1, 1, NONE), 6);
        due("no third", x.nights(0, 1, 0, NONE), -2);
    }

    static void nightsWhats() {
        says(22, "NIGHTS what NONE: what it costs, 0 to 7: HOURS in that NIGHT (-2: so many there are not)");
        SleepersPay x = Edge.street("street 2;person 2 0");
        for (int n = 1; n <= 8; n++) {
            for (int night = 0; night < 8; night++) {
                due("NIGHT " + night + " of " + n, x.nights(0, n, 0, night), night < n ? 2 : -2);
            }
        }
        due("8", x.nights(0, 8, 0, 8), -3);
        due("-2", x.nights(0, 8, 0, -2), -3);
        due("least", x.nights(0, 8, 0, LEAST), -3);
        due("greatest", x.nights(0, 8, 0, GREATEST), -3);
    }

    static void nightsCantBe() {
        says(22, "-2: it can't be");
        SleepersPay x = Edge.street("street 2;person 2 0;work 0 0 1");
        for (int what = NONE; what < 8; what++) {
            due("who always works", x.nights(0, 1, 1, what), -2);
        }
        due("but 2 may be owed", x.nights(0, 1, 2, NONE), 0);
        due("but 2 may be owed", x.nights(0, 1, 2, 0), 0);
    }

    static void nightsWithoutThese() {
        says(22, "-3 without these");
        due("without a STREET", new SleepersPay().nights(0, 1, 0, 0), -3);
        due("where nobody lives", Edge.street(NOBODY).nights(0, 1, 0, 0), -3);
        SleepersPay x = Edge.street(FIVE);
        due("the last", x.nights(4, 1, 0, 0), 1);
        for (int p : new int[] {LEAST, -1, 5, 32, GREATEST}) {
            due("nights(" + p + ", 1, 0, 0)", x.nights(p, 1, 0, 0), -3);
        }
    }

    // ---- 23: turned

    static void turnedBounds() {
        says(TERMS, "TURNED of a PERSON for n HOURS (1 to 60)");
        SleepersPay x = Edge.street("street 2;person 0 0;lamp 9 1;lit 0 0 1");
        due("1", x.turned(0, 1, 0), 1);
        due("60", x.turned(0, 60, 0), 60);
        for (int n : new int[] {LEAST, -1, 0, 61, GREATEST}) {
            due("turned(0, " + n + ", 0)", x.turned(0, n, 0), NO_FRACTION);
        }
    }

    static void turnedWhoWake() {
        says(TERMS, "what they would owe for these, if those who wake shared each COST, less what they owe for them as it is");
        SleepersPay x = Edge.street(FIVE);
        due("all wake, above", x.turned(4, 1, 0), 7);
        due("all wake, below", x.turned(4, 1, 1), 5);
        x.hour();
        due("what was is not asked", x.turned(4, 1, 0), 7);
        for (int p = 0; p < 5; p++) {
            x.sleep(p, true);
        }
        due("nobody wakes, above", x.turned(4, 1, 0), -7);
        due("nobody wakes, below", x.turned(4, 1, 1), 5);
        x.sleep(4, false);
        due("one alone wakes", x.turned(4, 1, 0), 7);
        due("one alone wakes", x.turned(4, 1, 1), 1);
        x.sleep(4, true);
        x.hour();
        due("what they owe already", x.owed(4, 0), 7);
        due("is not asked", x.turned(4, 1, 0), 7);
        due("is not asked", x.turned(4, 1, 1), 5);
    }

    static void turnedSign() {
        says(TERMS, "a fraction in lowest terms (its sign above the line)");
        SleepersPay x = Edge.street("street 2;person 0 0;person 0 0;person 0 0;lamp 9 2;lit 0 0 1");
        x.sleep(0, true);
        x.sleep(1, true);
        x.sleep(2, true);
        due("above", x.turned(0, 1, 0), -2);
        due("below", x.turned(0, 1, 1), 3);
        due("nothing, above", Edge.street("street 2;person 0 0").turned(0, 60, 0), 0);
        due("nothing, below", Edge.street("street 2;person 0 0").turned(0, 60, 1), 1);
    }

    static void turnedWithoutThese() {
        says(23, "TURNED part 0: above, 1: below the line; -1000000 without these");
        due("without a STREET", new SleepersPay().turned(0, 1, 0), NO_FRACTION);
        due("where nobody lives", Edge.street(NOBODY).turned(0, 1, 0), NO_FRACTION);
        SleepersPay x = Edge.street(FIVE);
        for (int p : new int[] {LEAST, -1, 5, 32, GREATEST}) {
            due("turned(" + p + ", 1, 0)", x.turned(p, 1, 0), NO_FRACTION);
        }
        for (int part : new int[] {LEAST, -1, 2, GREATEST}) {
            due("turned(0, 1, " + part + ")", x.turned(0, 1, part), NO_FRACTION);
        }
    }

    // ---- 24: spite

    static void spiteBounds() {
        says(TERMS, "SPITE of a LAMP for a PERSON (NONE: the town) in n HOURS (1 to 60)");
        SleepersPay x = Edge.street("street 10;person 0 0;lamp 9 1;lamp 9 2;lit 0 0 9");
        due("the town, 1", x.spite(0, NONE, 1, 0), 1);
        due("the town, 60", x.spite(0, NONE, 60, 0), 10);
        x.sleep(0, true);
        due("a PERSON, 1", x.spite(0, 0, 1, 0), 1);
        due("the town then", x.spite(0, NONE, 1, 0), 0);
        for (int n : new int[] {LEAST, -1, 0, 61, GREATEST}) {
            due("spite(0, 0, " + n + ", 0)", x.spite(0, 0, n, 0), NO_FRACTION);
        }
    }

    static void spiteTillTheNightIsOver() {
        says(TERMS, "if it burnt till the NIGHT is over (as by LIGHT), than if it did not (as by OUT)");
        SleepersPay x = Edge.street("street 3;lamp 9 1;lamp 9 2;lit 0 0 0");
        x.hour();
        int[] more = {1, 2, 2, 2};
        for (int n = 1; n <= 4; n++) {
            due("told in the first HOUR, " + n, x.spite(0, NONE, n, 0), more[n - 1]);
            due("never told, " + n, x.spite(1, NONE, n, 0), 2 * more[n - 1]);
        }
        x.light(0, true);
        due("one that was LIT", x.spite(0, NONE, 60, 0), 2);
        x.light(0, false);
        due("one that is OUT", x.spite(0, NONE, 60, 0), 2);
    }

    static void spiteLikewise() {
        says(TERMS, "than if it did not (as by OUT): likewise");
        SleepersPay x = Edge.street("street 2;person 0 0;person 0 0;lamp 9 5;lamp 9 2;lit 0 0 1;lit 1 0 1");
        Edge.inForce(x, "sleep 1 if cost < 7");
        due("they sleep without it: above", x.spite(1, 0, 1, 0), -5);
        due("they sleep without it: below", x.spite(1, 0, 1, 1), 2);
        x.force(NONE);
        due("nothing, above", x.spite(0, 0, 60, 0), 0);
        due("nothing, below", x.spite(0, 0, 60, 1), 1);
    }

    static void spiteWithoutThese() {
        says(24, "SPITE part 0: above, 1: below the line; -1000000 without these (a STREET)");
        due("without a STREET", new SleepersPay().spite(0, NONE, 1, 0), NO_FRACTION);
        due("without a LAMP", Edge.street("street 2;person 0 0").spite(0, NONE, 1, 0), NO_FRACTION);
        SleepersPay x = Edge.street("street 2" + ";person 0 0".repeat(5) + ";lamp 9 1".repeat(5));
        due("the last of each", x.spite(4, 4, 1, 0), 0);
        for (int l : new int[] {LEAST, -1, 5, 32, GREATEST}) {
            due("spite(" + l + ", 0, 1, 0)", x.spite(l, 0, 1, 0), NO_FRACTION);
        }
        for (int p : new int[] {LEAST, -2, 5, 32, GREATEST}) {
            due("spite(0, " + p + ", 1, 0)", x.spite(0, p, 1, 0), NO_FRACTION);
        }
        for (int part : new int[] {LEAST, -1, 2, GREATEST}) {
            due("spite(0, 0, 1, " + part + ")", x.spite(0, 0, 1, part), NO_FRACTION);
        }
    }

    // ---- 25: seed

    static void seedWhatItWas() {
        says(25, "x becomes a number: what it was");
        SleepersPay x = new SleepersPay();
        due("0 at first", x.seed(GREATEST), 0);
        due("the greatest", x.seed(0), GREATEST);
        due("0", x.seed(1), 0);
        due("count(14)", x.count(14), 1);
    }

    static void seedBelowNought() {
        says(25, "NONE, and nothing happens, below 0");
        Edge.nothing("seed(-1)", x -> x.seed(-1), NONE);
        Edge.nothing("seed(least)", x -> x.seed(LEAST), NONE);
    }

    // ---- 26: lives

    private static long drawn(long x) {
        return (x * 1103515245L + 12345L) % 2147483648L;
    }

    static void draws() {
        says(TERMS, "x (0 to 2147483647; 0 at first) becomes x * 1103515245 + 12345, of 2147483648 the rest; "
            + "a DRAW is x / 65536");
        SleepersPay x = Edge.street("street 2;person 0 0");
        for (int seed : new int[] {0, 1, 2, 65535, 65536, 1073741824, GREATEST - 1, GREATEST}) {
            x.seed(seed);
            int draw = (int) (drawn(seed) / 65536 % 100);
            due("below the DRAW of " + seed, x.lives(1, 1, draw, 0), 0);
            due("above the DRAW of " + seed, x.lives(1, 1, draw + 1, 0), 1);
        }
    }

    static void drawsBelow() {
        says(TERMS, "a DRAW mod 100: below p (0 to 100) they are asleep then, else awake");
        SleepersPay x = Edge.street("street 2;person 0 0");
        boolean least = false;
        boolean greatest = false;
        for (int seed = 0; seed < 1000 && !(least && greatest); seed++) {
            long draw = drawn(seed) / 65536 % 100;
            x.seed(seed);
            if (draw == 0 && !least) {
                least = true;
                due("0 is not below 0", x.lives(1, 1, 0, 0), 0);
                due("0 is below 1", x.lives(1, 1, 1, 0), 1);
            }
            if (draw == 99 && !greatest) {
                greatest = true;
                due("99 is not below 99", x.lives(1, 1, 99, 0), 0);
                due("99 is below 100", x.lives(1, 1, 100, 0), 1);
            }
        }
        due("both were drawn", least && greatest, true);
        x.sleep(0, true);
        due("who slept is awake then", x.lives(1, 1, 0, 0), 0);
        due("-1", x.lives(1, 1, -1, 0), NONE);
        due("101", x.lives(1, 1, 101, 0), NONE);
        due("least", x.lives(1, 1, LEAST, 0), NONE);
        due("greatest", x.lives(1, 1, GREATEST, 0), NONE);
    }

    static void livesWhoWork() {
        says(TERMS, "by numbers, each PERSON who does not work");
        SleepersPay x = Edge.street("street 2;person 0 0;person 0 0;work 0 0 0");
        due("of two HOURS, one of work", x.lives(1, 2, 100, 0), 3);
        long first = drawn(5);
        long second = drawn(first);
        x.seed(5);
        int draw = (int) (first / 65536 % 100);
        due("no DRAW for who works", x.lives(1, 1, draw, 0), 0);
        due("no DRAW for who works", x.lives(1, 1, draw + 1, 0), 1);
        x.hour();
        int p = (int) Math.max(draw, second / 65536 % 100);
        due("a DRAW each", x.lives(1, 1, p, 0), 1);
        due("a DRAW each", x.lives(1, 1, p + 1, 0), 2);
        SleepersPay y = Edge.street("street 3;person 0 0;work 0 1 1");
        y.sleep(0, true);
        y.hour();
        due("who works wakes", y.lives(1, 1, 100, 0), 0);
    }

    static void livesBounds() {
        says(TERMS, "LIVES m times (1 to 10) n HOURS (1 to 60) from now on");
        SleepersPay x = Edge.street("street 2;person 0 0;lamp 9 1;lit 0 1 1");
        due("1 and 1", x.lives(1, 1, 100, 0), 1);
        due("10 and 60", x.lives(10, 60, 100, 0), 600);
        due("10 and 60", x.lives(10, 60, 0, 1), 300);
        for (int m : new int[] {LEAST, -1, 0, 11, GREATEST}) {
            due("lives(" + m + ", 1, 0, 0)", x.lives(m, 1, 0, 0), NONE);
        }
        for (int n : new int[] {LEAST, -1, 0, 61, GREATEST}) {
            due("lives(1, " + n + ", 0, 0)", x.lives(1, n, 0, 0), NONE);
        }
        x.hour();
        due("each from now on", x.lives(3, 1, 0, 1), 3);
        due("each from now on", x.lives(3, 2, 0, 1), 3);
    }

    static void livesDrawsGoOn() {
        says(TERMS, "LIVES m times");
        SleepersPay x = Edge.street("street 2;person 0 0");
        x.seed(7);
        long drawn = 7;
        int many = 0;
        for (int m = 1; m <= 10; m++) {
            drawn = drawn(drawn);
            many += drawn / 65536 % 100 < 50 ? 1 : 0;
            due("from life to life, " + m, x.lives(m, 1, 50, 0), many);
        }
        due("some sleep, some wake", many > 0 && many < 10, true);
    }

    static void livesTown() {
        says(TERMS, "HOURS slept; COST the town owes, all together (nothing stays; x as it was)");
        SleepersPay x = Edge.street(FIVE);
        x.hour();
        due("the town owes so far", x.owed(NONE, 0), 7);
        due("of these HOURS alone", x.lives(2, 3, 0, 1), 42);
        due("nobody slept", x.lives(2, 3, 0, 0), 0);
        due("all slept", x.lives(2, 3, 100, 0), 30);
        due("the town owes nothing", x.lives(2, 3, 100, 1), 0);
        due("nothing stays", x.owed(NONE, 0), 7);
        due("x", x.count(14), 0);
        x.light(0, false);
        due("by ACTS till the NIGHT is over", x.lives(1, 3, 0, 1), 14);
    }

    static void livesNoRule() {
        says(TERMS, "no RULE is asked");
        SleepersPay x = Edge.street(FIVE);
        Edge.inForce(x, "sleep 1");
        due("nobody", x.lives(1, 2, 0, 0), 0);
        Edge.inForce(x, "sleep 0");
        due("all", x.lives(1, 2, 100, 0), 10);
    }

    static void livesWithoutThese() {
        says(26, "LIVES what 0: HOURS slept, 1: COST of the town. NONE without these, or a STREET");
        due("without a STREET", new SleepersPay().lives(1, 1, 0, 0), NONE);
        due("where nobody lives", Edge.street(NOBODY).lives(1, 1, 100, 0), 0);
        due("where nobody lives", Edge.street(NOBODY).lives(1, 1, 100, 1), 7);
        SleepersPay x = Edge.street(FIVE);
        for (int what : new int[] {LEAST, -1, 2, GREATEST}) {
            due("lives(1, 1, 0, " + what + ")", x.lives(1, 1, 0, what), NONE);
        }
    }

    // ---- 27: count

    static void countsOfTheFullest() {
        says(27, "What 0: HOURS, 1: PEOPLE, 2: WORKS, 3: LAMPS, 4: LITS, 5: RULES, 6: the RULE IN FORCE (NONE), "
            + "7: HOUR, 8: NIGHT, 9: who sleeps, as bits, 10: LAMPS that burn, as bits, 11: COST of these, "
            + "12: FACTS, 13: ACTS that can be UNDONE, 14: x, 15: bytes of the TAPE");
        SleepersPay x = Edge.street("street 10" + ";person 0 0".repeat(5) + ";work 0 0 0".repeat(8)
            + ";lamp 9 60".repeat(5) + ";lit 0 0 8;lit 1 0 9;lit 2 0 9;lit 3 0 9;lit 4 0 9;lit 4 1 1;lit 4 2 2;lit 0 9 9");
        for (int i = 0; i < 6; i++) {
            Edge.inForce(x, "sleep 1");
        }
        for (int i = 0; i < 10; i++) {
            x.fact(2, 0, 0, 0);
        }
        Edge.hours(x, 19);
        x.sleep(4, false);
        x.sleep(4, true);
        x.seed(GREATEST);
        Telling.tape(x, "z".repeat(400));
        int[] most = {10, 5, 8, 5, 8, 6, 5, 9, 1, 31, 31, 300, 10, 20, GREATEST, 400};
        for (int what = 0; what < 16; what++) {
            due("count(" + what + ")", x.count(what), most[what]);
        }
    }

    static void countsOfNothing() {
        says(27, "6: the RULE IN FORCE (NONE)");
        SleepersPay x = new SleepersPay();
        for (int what = 0; what < 16; what++) {
            due("count(" + what + ")", x.count(what), what == 6 ? NONE : 0);
        }
    }

    static void countOthers() {
        says(27, "NONE for others");
        for (int what : new int[] {LEAST, -1, 16, GREATEST}) {
            due("count(" + what + ")", Edge.busy().count(what), NONE);
            due("of a new object", new SleepersPay().count(what), NONE);
        }
    }

    // ---- 28: image

    static void images4() {
        says(TERMS, "IMAGES 0 to 3");
        SleepersPay x = Edge.street("street 2");
        for (int k = 0; k < 4; k++) {
            x.seed(k + 1);
            due("image(" + k + ")", x.image(k), 0);
        }
        for (int k = 0; k < 4; k++) {
            due("back(" + k + ")", x.back(k), 0);
            due("x", x.count(14), k + 1);
        }
    }

    static void imageNight() {
        says(28, "An IMAGE is made: NIGHT");
        SleepersPay x = Edge.street("street 2;person 0 0");
        due("NIGHT 0", x.image(0), 0);
        x.sleep(0, true);
        x.hour();
        due("the last HOUR of it", x.image(0), 0);
        x.hour();
        due("NIGHT 1", x.image(3), 1);
        due("ACTS stay", x.count(13), 3);
        due("without a STREET", new SleepersPay().image(0), 0);
    }

    static void imageMadeAgain() {
        says(28, "An IMAGE is made");
        SleepersPay x = Edge.street("street 2");
        x.seed(1);
        x.image(0);
        x.seed(2);
        x.image(0);
        x.seed(3);
        x.back(0);
        due("the last holds", x.count(14), 2);
    }

    static void imageWithoutIt() {
        says(28, "NONE without it");
        for (int k : new int[] {LEAST, -1, 4, GREATEST}) {
            Edge.nothing("image(" + k + ")", x -> x.image(k), NONE);
        }
    }

    // ---- 29: back

    static void backAsItWas() {
        says(TERMS, "all but the TAPE and the RULES, as it is (the RULE IN FORCE, too); gone back to, it is as it was");
        SleepersPay x = Edge.busy();
        x.image(0);
        x.fact(NONE, 0, 0, 0);
        x.fact(0, 1, 300, 300);
        x.fact(0, 1, 300, 300);
        x.fact(0, 1, 300, 300);
        x.seed(1);
        x.force(NONE);
        x.light(0, false);
        x.light(1, true);
        x.sleep(0, false);
        Edge.hours(x, 5);
        Telling.street(x, FIVE);
        x.hour();
        Telling.tape(x, "sleep 1");
        due("back(0)", x.back(0), 0);
        SleepersPay same = Edge.busy();
        same.image(0);
        same.back(0);
        Edge.alike("back(0)", x, same);
    }

    static void backTheseStay() {
        says(TERMS, "these stay; nothing can be UNDONE then");
        SleepersPay x = Edge.street("street 2;person 0 0");
        x.image(0);
        x.hour();
        Telling.rule(x, "sleep 1");
        x.force(0);
        x.feed(0, 0, 0, 0, 0);
        x.back(0);
        due("RULES", x.count(5), 1);
        due("IN FORCE", x.count(6), NONE);
        due("TAPE", x.count(15), 20);
        due("ACTS", x.count(13), 0);
        due("undo()", x.undo(), NONE);
        x.hour();
        due("ACTS from then on", x.count(13), 1);
        due("undo()", x.undo(), 0);
    }

    static void backNight() {
        says(29, "All is as in an IMAGE: NIGHT");
        SleepersPay x = Edge.street("street 2");
        Edge.hours(x, 4);
        x.image(1);
        Edge.hours(x, 4);
        due("NIGHT 2", x.back(1), 2);
        due("count(8)", x.count(8), 2);
        x.hour();
        due("as often as one likes", x.back(1), 2);
        due("HOUR", x.count(7), 0);
        SleepersPay y = new SleepersPay();
        y.image(0);
        Telling.street(y, A);
        due("without a STREET", y.back(0), 0);
        due("HOURS", y.count(0), 0);
        due("hour()", y.hour(), NONE);
        due("person(0, 0)", y.person(0, 0), NONE);
    }

    static void backNeverMade() {
        says(29, "NONE, and nothing happens, if it was never made");
        due("a new object", new SleepersPay().back(0), NONE);
        for (int k : new int[] {0, 1, 3}) {
            Edge.nothing("back(" + k + ")", x -> x.back(k), NONE);
        }
    }

    static void backWithoutIt() {
        says(29, "or without it");
        for (int k : new int[] {LEAST, -1, 4, GREATEST}) {
            Edge.nothing("back(" + k + ")", x -> x.back(k), NONE);
        }
    }
}
