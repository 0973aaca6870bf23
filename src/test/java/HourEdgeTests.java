/** The boundaries of HOURS and ACTS, and of what a PERSON and a LAMP is: promises 7 to 14. */
public final class HourEdgeTests {
    private static final int NONE = Edge.NONE;
    private static final int TERMS = Edge.TERMS;
    private static final int LEAST = Integer.MIN_VALUE;
    private static final int GREATEST = Integer.MAX_VALUE;
    private static final String FIVE = "street 2" + ";person 1 1".repeat(5) + ";lamp 9 7;lit 0 0 1";

    public static void main(String[] args) throws Exception {
        Edge.run(HourEdgeTests.class);
    }

    private static void says(int where, String words) {
        Edge.says(where, words);
    }

    private static void due(String call, int got, int want) {
        Edge.due(call, got, want);
    }

    private static void due(String call, boolean got, boolean want) {
        Edge.due(call, got, want);
    }

    private static int bit(boolean is) {
        return is ? 1 : 0;
    }

    // ---- Terms: lamps

    static void lampOutTillTheNightIsOver() {
        says(TERMS, "A LAMP burns in the HOURS told (of each NIGHT), unless it was OUT by an ACT");
        SleepersPay x = Edge.street("street 3;lamp 9 5;lit 0 0 2");
        x.hour();
        x.light(0, false);
        int[] burns = {0, 0, 1, 1, 1};
        for (int i = 0; i < burns.length; i++) {
            due("LAMPS " + i + " HOURS on", x.count(10), burns[i]);
            x.hour();
        }
    }

    static void lampLitTillTheNightIsOver() {
        says(TERMS, "in others, if it was LIT by one: this holds till the NIGHT is over");
        SleepersPay x = Edge.street("street 3;lamp 9 5;lit 0 0 0");
        x.hour();
        x.light(0, true);
        int[] burns = {1, 1, 1, 0, 0};
        for (int i = 0; i < burns.length; i++) {
            due("LAMPS " + i + " HOURS on", x.count(10), burns[i]);
            x.hour();
        }
    }

    static void lampLastActHolds() {
        says(TERMS, "this holds till the NIGHT is over");
        SleepersPay x = Edge.street("street 3;lamp 9 5;lamp 9 7;lit 0 0 2");
        x.light(0, false);
        x.light(0, true);
        x.light(1, true);
        x.light(1, false);
        x.light(0, false);
        x.light(1, true);
        x.hour();
        due("OUT by the last, LIT by the last", x.count(10), 2);
        x.light(0, true);
        x.light(1, false);
        x.hour();
        due("LIT by the last, OUT by the last", x.count(10), 1);
    }

    // ---- Terms: who pays

    static void sharedByAllWhoSleep() {
        says(TERMS, "the COST of all LAMPS that burn is shared by all who sleep, each as much");
        for (int many = 1; many <= 5; many++) {
            SleepersPay x = Edge.street(FIVE);
            for (int p = 0; p < many; p++) {
                x.sleep(p, true);
            }
            x.hour();
            due("of " + many, x.owed(many - 1, 0), 7);
            due("of " + many, x.owed(many - 1, 1), many);
            due("who wakes", x.owed(many, 0), many < 5 ? 0 : NONE);
            due("the town", x.owed(NONE, 0), 0);
        }
    }

    static void nobodySleeps() {
        says(TERMS, "sleeps nobody, the town owes it");
        SleepersPay x = Edge.street(FIVE);
        x.hour();
        due("the town", x.owed(NONE, 0), 7);
        due("the town", x.owed(NONE, 1), 1);
        due("a PERSON", x.owed(0, 0), 0);
        SleepersPay empty = Edge.street("street 2;lamp 9 7;lit 0 0 1");
        empty.hour();
        due("where nobody lives", empty.owed(NONE, 0), 7);
    }

    static void noLampBurns() {
        says(TERMS, "the COST of all LAMPS that burn is shared");
        SleepersPay x = Edge.street("street 2;person 0 0;lamp 9 7");
        x.sleep(0, true);
        x.hour();
        due("nothing is owed", x.owed(0, 0), 0);
        due("nothing is owed", x.owed(0, 1), 1);
    }

    // ---- Terms: an HOUR

    static void whoWorksWakes() {
        says(TERMS, "(1) who works wakes");
        SleepersPay x = Edge.street("street 3;person 0 0;person 0 0;work 0 1 1;lamp 9 7;lit 0 1 1");
        x.sleep(0, true);
        x.sleep(1, true);
        x.hour();
        due("still ahead of the HOUR", x.count(9), 3);
        due("in the HOUR of work", x.hour(), 1);
        due("wakes", x.count(9), 2);
        due("owes nothing for it", x.owed(0, 0), 0);
        due("the other owes all", x.owed(1, 0), 7);
    }

    static void workersWakeAheadOfTheRule() {
        says(TERMS, "(1) who works wakes. (2) by the RULE IN FORCE");
        SleepersPay x = Edge.street("street 3;person 0 0;person 0 0;work 1 1 1");
        x.sleep(1, true);
        x.hour();
        Edge.inForce(x, "sleep 1 if others = 0");
        due("the last, who works, wakes ahead of the first", x.hour(), 1);
    }

    static void sumAboveNought() {
        says(TERMS, "is above 0, else wakes");
        SleepersPay x = Edge.street("street 2;person 0 0;person 0 0;person 0 0");
        for (int p = 0; p < 3; p++) {
            x.sleep(p, true);
        }
        Edge.inForce(x, "sleep person - 1");
        due("-1, 0 and 1", x.hour(), 1);
        due("-1, 0 and 1", x.count(9), 4);
    }

    static void firstClauseThatHolds() {
        says(TERMS, "the first CLAUSE without a TEST, or whose TEST holds (0 without)");
        SleepersPay x = Edge.street("street 2;person 0 0;person 0 0;person 0 0");
        x.sleep(2, true);
        Edge.inForce(x, "sleep 0 if person = 0;sleep 1 if person < 2");
        x.hour();
        due("0, 1, without", x.count(9), 2);
        Edge.inForce(x, "sleep 0;sleep 1");
        due("without a TEST", x.hour(), 0);
    }

    static void thoseAheadAreSoAlready() {
        says(TERMS, "those ahead are so already");
        SleepersPay x = Edge.street("street 2" + ";person 0 0".repeat(5));
        Edge.inForce(x, "sleep 1 if others = person");
        x.hour();
        due("each sees those ahead asleep", x.count(9), 31);
        x.undo();
        x.sleep(4, true);
        x.hour();
        due("and those behind as they were", x.count(9), 14);
    }

    static void withoutARule() {
        says(TERMS, "without a RULE all stay as they are");
        SleepersPay x = Edge.street("street 3;person 0 0;person 0 0");
        x.sleep(1, true);
        x.hour();
        due("who sleeps", x.count(9), 2);
        Edge.inForce(x, "sleep 1");
        x.force(NONE);
        x.hour();
        due("who sleeps", x.count(9), 2);
    }

    static void sleptInTheLastHour() {
        says(TERMS, "who sleeps has slept an HOUR more. (4)");
        SleepersPay x = Edge.street("street 2;person 1 0;person 1 0");
        x.sleep(0, true);
        x.hour();
        due("slept", x.person(0, 3), 1);
        due("who wakes", x.person(1, 3), 0);
        x.sleep(0, false);
        x.sleep(1, true);
        x.hour();
        due("the first HOUR counts", x.person(0, 4), 0);
        due("the last HOUR counts", x.person(1, 4), 0);
    }

    static void hourGoesRound() {
        says(TERMS, "HOUR is 1 more; behind the last it is 0, NIGHT 1 more");
        for (int hours = 2; hours <= 10; hours++) {
            SleepersPay x = Edge.street("street " + hours);
            Edge.hours(x, hours - 1);
            due("the last HOUR", x.count(7), hours - 1);
            due("NIGHT", x.count(8), 0);
            x.hour();
            due("behind the last", x.count(7), 0);
            due("NIGHT", x.count(8), 1);
        }
    }

    /** More than 512 calls, beyond which all is free: nothing less comes so far. */
    static void nights999() {
        says(TERMS, "NIGHT 1 more (999 at most)");
        SleepersPay x = Edge.street("street 2;person 0 0");
        Edge.inForce(x, "sleep 1 if night = 999 and hour = 0");
        Edge.hours(x, 1999);
        due("NIGHT", x.count(8), 999);
        due("HOUR", x.count(7), 1);
        due("slept", x.person(0, 3), 1);
        due("behind the last HOUR", x.ahead(0, 1, 1), 0);
        due("it is NIGHT 999 still", x.ahead(0, 2, 1), 1);
    }

    static void debtOfWhatIsLacked() {
        says(TERMS, "what each NEEDS and has not slept in it is added to their DEBT");
        SleepersPay x = Edge.street("street 2;person 0 0;person 1 0;person 2 0");
        due("not ahead of the last HOUR", x.ahead(2, 1, 2), 0);
        Edge.hours(x, 2);
        for (int p = 0; p < 3; p++) {
            due("DEBT", x.person(p, 4), p);
        }
        x.sleep(2, true);
        Edge.hours(x, 2);
        due("as much as they need", x.person(2, 4), 2);
        due("added", x.person(1, 4), 2);
    }

    static void debtTakenOff() {
        says(TERMS, "what they slept more is taken off; 0 at least");
        SleepersPay x = Edge.street("street 3;person 2 0;person 0 0");
        Edge.hours(x, 3);
        for (int debt = 1; debt >= -1; debt--) {
            x.sleep(0, true);
            x.sleep(1, true);
            Edge.hours(x, 3);
            due("one more than they need", x.person(0, 4), Math.max(0, debt));
            due("who lacks nothing", x.person(1, 4), 0);
        }
        Edge.hours(x, 3);
        due("no sleep is in store", x.person(0, 4), 2);
    }

    /** More than 512 calls, beyond which all is free: nothing less comes so far. */
    static void debt999() {
        says(TERMS, "0 at least, 999 at most");
        SleepersPay x = Edge.street("street 10;person 10 0;person 9 0");
        Edge.hours(x, 990);
        due("DEBT", x.person(0, 4), 990);
        due("DEBT", x.person(1, 4), 891);
        Edge.hours(x, 10);
        due("not 1000", x.person(0, 4), 999);
        Edge.hours(x, 110);
        due("999 itself", x.person(1, 4), 999);
        due("not 1110", x.person(0, 4), 999);
        x.sleep(0, true);
        Edge.hours(x, 10);
        due("as much as they need", x.person(0, 4), 999);
    }

    static void nextNight() {
        says(TERMS, "nobody has slept yet, all wake, LAMPS burn as told");
        SleepersPay x = Edge.street("street 2;person 0 0;person 0 0;lamp 9 1;lamp 9 1;lit 0 0 1");
        x.sleep(0, true);
        x.sleep(1, true);
        x.light(0, false);
        x.light(1, true);
        x.hour();
        due("slept", x.person(0, 3), 1);
        due("who sleeps", x.count(9), 3);
        due("LAMPS", x.count(10), 2);
        x.hour();
        due("slept", x.person(0, 3), 0);
        due("slept", x.person(1, 3), 0);
        due("who sleeps", x.count(9), 0);
        due("LAMPS", x.count(10), 1);
    }

    // ---- Terms: ACTS

    static void actHour() {
        says(TERMS, "ACTS: an HOUR");
        SleepersPay x = Edge.street("street 2");
        Edge.hours(x, 2);
        due("ACTS", x.count(13), 2);
        due("undo()", x.undo(), 1);
        due("HOUR", x.count(7), 1);
    }

    static void actSleep() {
        says(TERMS, "SLEEP (a PERSON, awake, who does not work in this HOUR)");
        SleepersPay x = Edge.street("street 3;person 0 0;work 0 1 1");
        due("ahead of the HOUR of work", x.sleep(0, true), true);
        due("not awake", x.sleep(0, true), false);
        x.hour();
        x.sleep(0, false);
        due("in the HOUR of work", x.sleep(0, true), false);
        x.hour();
        due("behind it", x.sleep(0, true), true);
    }

    static void actWake() {
        says(TERMS, "WAKE");
        SleepersPay x = Edge.street("street 3;person 0 0;work 0 1 1");
        due("who wakes", x.sleep(0, false), false);
        x.sleep(0, true);
        x.hour();
        due("who sleeps still and works", x.sleep(0, false), true);
        due("who works and wakes", x.sleep(0, false), false);
    }

    static void actLight() {
        says(TERMS, "LIGHT (a LAMP that does not burn now does till the NIGHT is over)");
        SleepersPay x = Edge.street("street 3;lamp 9 1;lit 0 1 1");
        due("an HOUR not told", x.light(0, true), true);
        due("it burns", x.light(0, true), false);
        Edge.hours(x, 2);
        due("behind the HOUR told", x.count(10), 1);
    }

    static void actOut() {
        says(TERMS, "OUT (one that burns does not till then)");
        SleepersPay x = Edge.street("street 3;lamp 9 1;lit 0 0 0;lit 0 2 2");
        due("an HOUR told", x.light(0, false), true);
        due("it does not burn", x.light(0, false), false);
        Edge.hours(x, 2);
        due("in the next HOUR told", x.count(10), 0);
        x.hour();
        due("the NIGHT is over", x.count(10), 1);
    }

    static void acts20() {
        says(TERMS, "The last 20 can be UNDONE, the last first");
        SleepersPay x = Edge.street("street 10;person 0 0");
        for (int i = 1; i <= 20; i++) {
            x.hour();
            due("ACTS", x.count(13), i);
        }
        x.sleep(0, true);
        due("of 21", x.count(13), 20);
        x.hour();
        due("of 22", x.count(13), 20);
        due("undo()", x.undo(), 19);
        due("the HOUR first", x.count(9), 1);
        due("undo()", x.undo(), 18);
        due("the SLEEP then", x.count(9), 0);
        for (int i = 17; i >= 0; i--) {
            due("undo()", x.undo(), i);
        }
        due("undo()", x.undo(), NONE);
        due("the first two stay", x.count(7), 2);
        due("the first two stay", x.count(8), 0);
    }

    // ---- 7: person

    static void personWhats() {
        says(7, "Of a PERSON what 0: NEED, 1: WORTH, 2: 1 if asleep, else 0, 3: HOURS slept in this NIGHT, "
            + "4: DEBT, 5: 1 if they work in this HOUR, else 0");
        SleepersPay x = Edge.street("street 3;person 0 0;person 3 60;work 1 2 2");
        int[] none = {0, 0, 0, 0, 0, 0};
        for (int what = 0; what < 6; what++) {
            due("person(0, " + what + ")", x.person(0, what), none[what]);
        }
        Edge.hours(x, 3);
        x.sleep(1, true);
        Edge.hours(x, 2);
        int[] most = {3, 60, 1, 2, 3, 1};
        for (int what = 0; what < 6; what++) {
            due("person(1, " + what + ")", x.person(1, what), most[what]);
        }
    }

    static void personWithoutThese() {
        says(7, "NONE without these");
        due("without a STREET", new SleepersPay().person(0, 0), NONE);
        due("where nobody lives", Edge.street("street 2").person(0, 0), NONE);
        SleepersPay x = Edge.street(FIVE);
        due("the last", x.person(4, 0), 1);
        for (int p : new int[] {LEAST, -1, 5, 32, GREATEST}) {
            due("person(" + p + ", 0)", x.person(p, 0), NONE);
        }
        due("not told", Edge.street("street 2;person 1 1").person(1, 0), NONE);
        for (int what : new int[] {LEAST, -1, 6, GREATEST}) {
            due("person(0, " + what + ")", x.person(0, what), NONE);
        }
    }

    // ---- 8: lamp

    static void lampWhats() {
        says(8, "Of a LAMP what 0: whose (9: the town's), 1: COST, 2: 1 if it burns now, else 0");
        SleepersPay x = Edge.street("street 2" + ";person 0 0".repeat(5) + ";lamp 9 60;lamp 4 1;lit 0 0 0");
        int[] first = {9, 60, 1};
        int[] second = {4, 1, 0};
        for (int what = 0; what < 3; what++) {
            due("lamp(0, " + what + ")", x.lamp(0, what), first[what]);
            due("lamp(1, " + what + ")", x.lamp(1, what), second[what]);
        }
        x.hour();
        due("behind the HOUR told", x.lamp(0, 2), 0);
    }

    static void lampWithoutThese() {
        says(8, "NONE without these");
        due("without a STREET", new SleepersPay().lamp(0, 0), NONE);
        due("where there is none", Edge.street("street 2;person 0 0").lamp(0, 0), NONE);
        SleepersPay x = Edge.street("street 2" + ";lamp 9 3".repeat(5));
        due("the last", x.lamp(4, 1), 3);
        for (int l : new int[] {LEAST, -1, 5, 32, GREATEST}) {
            due("lamp(" + l + ", 0)", x.lamp(l, 0), NONE);
        }
        due("not told", Edge.street("street 2;lamp 9 1").lamp(1, 0), NONE);
        for (int what : new int[] {LEAST, -1, 3, GREATEST}) {
            due("lamp(0, " + what + ")", x.lamp(0, what), NONE);
        }
    }

    // ---- 9: hour

    static void hourHowMany() {
        says(9, "An HOUR: how many slept in it");
        SleepersPay x = Edge.street(FIVE);
        due("nobody", x.hour(), 0);
        Edge.inForce(x, "sleep 1");
        due("all, in the last HOUR", x.hour(), 5);
        due("all, in the first", x.hour(), 5);
        due("where nobody lives", Edge.street("street 2").hour(), 0);
    }

    static void hourWithoutAStreet() {
        says(9, "NONE, and nothing happens, without a STREET");
        SleepersPay x = new SleepersPay();
        due("hour()", x.hour(), NONE);
        due("HOUR", x.count(7), 0);
        due("ACTS", x.count(13), 0);
        due("undo()", x.undo(), NONE);
        Edge.alike("hour()", x, new SleepersPay());
    }

    /** More than 512 calls, beyond which all is free: nothing less comes so far. */
    static void hourTheLast() {
        says(9, "or in the last HOUR of NIGHT 999");
        SleepersPay x = Edge.street("street 2;person 2 0;lamp 9 1;lit 0 0 1");
        Edge.hours(x, 1998);
        due("NIGHT", x.count(8), 999);
        due("the HOUR ahead of the last", x.hour(), 0);
        due("the last", x.hour(), NONE);
        due("NIGHT", x.count(8), 999);
        due("HOUR", x.count(7), 1);
        due("the town", x.owed(NONE, 0), 1999);
        due("undo()", x.undo(), 19);
        due("HOUR", x.count(7), 0);
    }

    // ---- 10: sleep

    static void sleepIsAnAct() {
        says(10, "SLEEP (is false: WAKE): true");
        SleepersPay x = Edge.street(FIVE);
        due("sleep(4, true)", x.sleep(4, true), true);
        due("who sleeps", x.count(9), 16);
        due("ACTS", x.count(13), 1);
        due("sleep(4, false)", x.sleep(4, false), true);
        due("who sleeps", x.count(9), 0);
        due("ACTS", x.count(13), 2);
    }

    static void sleepWithoutThese() {
        says(10, "false, and nothing happens, without these");
        due("without a STREET", new SleepersPay().sleep(0, true), false);
        for (int p : new int[] {LEAST, -1, 3, 32, GREATEST}) {
            Edge.nothing("sleep(" + p + ", true)", x -> bit(x.sleep(p, true)), 0);
            Edge.nothing("sleep(" + p + ", false)", x -> bit(x.sleep(p, false)), 0);
        }
        Edge.nothing("who works", x -> bit(x.sleep(1, true)), 0);
    }

    static void sleepIsSo() {
        says(10, "or if it is so");
        Edge.nothing("who sleeps", x -> bit(x.sleep(0, true)), 0);
        Edge.nothing("who wakes", x -> bit(x.sleep(1, false)), 0);
    }

    // ---- 11: light

    static void lightIsAnAct() {
        says(11, "LIGHT (is false: OUT): true");
        SleepersPay x = Edge.street("street 2" + ";lamp 9 1".repeat(5));
        due("light(4, true)", x.light(4, true), true);
        due("LAMPS", x.count(10), 16);
        due("ACTS", x.count(13), 1);
        due("light(4, false)", x.light(4, false), true);
        due("LAMPS", x.count(10), 0);
        due("ACTS", x.count(13), 2);
    }

    static void lightWithoutThatLamp() {
        says(11, "false, and nothing happens, without that LAMP");
        due("without a STREET", new SleepersPay().light(0, true), false);
        for (int l : new int[] {LEAST, -1, 2, 32, GREATEST}) {
            Edge.nothing("light(" + l + ", true)", x -> bit(x.light(l, true)), 0);
            Edge.nothing("light(" + l + ", false)", x -> bit(x.light(l, false)), 0);
        }
    }

    static void lightIsSo() {
        says(11, "or if it is so");
        Edge.nothing("one that burns", x -> bit(x.light(0, true)), 0);
        Edge.nothing("one that does not", x -> bit(x.light(1, false)), 0);
        SleepersPay x = Edge.street("street 2;lamp 9 1;lamp 9 1;lit 0 0 0;lit 1 1 1");
        x.light(0, true);
        x.light(1, false);
        x.hour();
        due("it burns as told, not by that", x.count(10), 2);
    }

    // ---- 12: undo

    static void undoHowManyMore() {
        says(12, "The last ACT is UNDONE: how many more can be");
        SleepersPay x = Edge.street("street 2;person 2 0;lamp 9 1;lit 0 0 1");
        x.sleep(0, true);
        x.light(0, false);
        Edge.hours(x, 2);
        x.light(0, false);
        due("undo() of OUT", x.undo(), 4);
        due("LAMPS", x.count(10), 1);
        due("undo() of an HOUR, the last of a NIGHT", x.undo(), 3);
        due("NIGHT", x.count(8), 0);
        due("slept", x.person(0, 3), 1);
        due("who sleeps", x.count(9), 1);
        due("LAMPS", x.count(10), 0);
        due("undo() of an HOUR", x.undo(), 2);
        due("slept", x.person(0, 3), 0);
        due("undo() of OUT", x.undo(), 1);
        due("LAMPS", x.count(10), 1);
        due("undo() of SLEEP", x.undo(), 0);
        due("who sleeps", x.count(9), 0);
        Edge.hours(x, 2);
        x.light(0, false);
        x.light(0, true);
        due("undo() of LIGHT", x.undo(), 3);
        due("LAMPS", x.count(10), 0);
        due("LAMPS to the end of the NIGHT", x.lives(1, 2, 0, 1), 0);
        x.sleep(0, true);
        x.sleep(0, false);
        due("undo() of WAKE", x.undo(), 4);
        due("who sleeps", x.count(9), 1);
        due("DEBT", x.person(0, 4), 2);
        due("the town", x.owed(NONE, 0), 2);
        Edge.hours(x, 2);
        due("undo()", x.undo(), 5);
        due("undo()", x.undo(), 4);
        due("DEBT", x.person(0, 4), 2);
        due("what they owe", x.owed(0, 0), 0);
    }

    static void undoOfLight() {
        says(12, "The last ACT is UNDONE");
        SleepersPay x = Edge.street("street 3;lamp 9 1;lit 0 1 1");
        x.light(0, true);
        due("LIT till the NIGHT is over", x.lives(1, 6, 0, 1), 4);
        x.undo();
        due("LAMPS", x.count(10), 0);
        due("as told", x.lives(1, 6, 0, 1), 2);
        x.light(0, true);
        x.light(0, false);
        due("OUT till the NIGHT is over", x.lives(1, 6, 0, 1), 1);
        x.undo();
        due("LIT again", x.lives(1, 6, 0, 1), 4);
    }

    static void undoIsNoActItself() {
        says(12, "The last ACT is UNDONE");
        SleepersPay x = Edge.street("street 2;person 0 0");
        x.force(NONE);
        x.seed(5);
        x.fact(0, 0, 0, 0);
        x.image(0);
        due("these are no ACTS", x.count(13), 0);
        x.sleep(0, true);
        x.undo();
        due("undo() again", x.undo(), NONE);
        due("x stays", x.count(14), 5);
        due("FACTS stay", x.count(12), 1);
    }

    static void undoNone() {
        says(12, "NONE, and nothing happens: none can");
        due("a new object", new SleepersPay().undo(), NONE);
        SleepersPay x = Edge.busy();
        x.back(2);
        due("undo()", x.undo(), NONE);
        SleepersPay same = Edge.busy();
        same.back(2);
        Edge.alike("undo()", x, same);
    }

    // ---- 13: owed

    static void owedLowestTerms() {
        says(TERMS, "what a PERSON, or the town, owes so far: a fraction in lowest terms");
        SleepersPay x = Edge.street("street 5" + ";person 0 0".repeat(5) + ";lamp 9 6;lit 0 0 4");
        int[][] want = {{6, 5}, {27, 10}, {47, 10}, {77, 10}, {137, 10}};
        due("nothing, above", x.owed(0, 0), 0);
        due("nothing, below", x.owed(0, 1), 1);
        for (int hour = 0; hour < 5; hour++) {
            for (int p = 0; p < 5; p++) {
                x.sleep(p, p < 5 - hour);
                x.sleep(p, p < 5 - hour);
            }
            x.hour();
            due("above, " + hour, x.owed(0, 0), want[hour][0]);
            due("below, " + hour, x.owed(0, 1), want[hour][1]);
        }
        x.hour();
        due("the town", x.owed(NONE, 0), 6);
        due("the town", x.owed(NONE, 1), 1);
    }

    static void owedWithoutThese() {
        says(13, "NONE without these, or a STREET");
        due("without a STREET", new SleepersPay().owed(NONE, 0), NONE);
        due("without a STREET", new SleepersPay().owed(0, 0), NONE);
        SleepersPay x = Edge.street(FIVE);
        due("the last", x.owed(4, 0), 0);
        for (int p : new int[] {LEAST, -2, 5, 6, 32, GREATEST}) {
            due("owed(" + p + ", 0)", x.owed(p, 0), NONE);
        }
        due("not told", Edge.street("street 2;person 0 0").owed(1, 0), NONE);
        for (int part : new int[] {LEAST, -1, 2, GREATEST}) {
            due("owed(0, " + part + ")", x.owed(0, part), NONE);
            due("owed(NONE, " + part + ")", x.owed(NONE, part), NONE);
        }
    }

    // ---- 14: ahead

    static void aheadBounds() {
        says(TERMS, "AHEAD n HOURS (0 to 100)");
        SleepersPay x = Edge.street("street 2;person 2 0");
        due("0", x.ahead(0, 0, 2), 0);
        due("100", x.ahead(0, 100, 2), 100);
        due("101", x.ahead(0, 101, 2), NONE);
        due("-1", x.ahead(0, -1, 2), NONE);
        due("least", x.ahead(0, LEAST, 2), NONE);
        due("greatest", x.ahead(0, GREATEST, 2), NONE);
    }

    static void aheadAsItIsAhead() {
        says(TERMS, "1 if a PERSON sleeps in the HOUR then (as it is ahead of it, by the ACTS and RULES so far)");
        SleepersPay x = Edge.street("street 3;person 0 0;work 0 1 1");
        x.sleep(0, true);
        due("now", x.ahead(0, 0, 0), 1);
        due("ahead of the HOUR of work", x.ahead(0, 1, 0), 1);
        due("behind it", x.ahead(0, 2, 0), 0);
        Edge.inForce(x, "sleep 1");
        due("behind the HOUR of work", x.ahead(0, 2, 0), 0);
        due("the NIGHT is over: all wake", x.ahead(0, 3, 0), 0);
        due("an HOUR on", x.ahead(0, 4, 0), 1);
    }

    static void aheadSlept() {
        says(TERMS, "HOURS slept in that NIGHT, DEBT");
        SleepersPay x = Edge.street("street 3;person 3 0");
        Edge.inForce(x, "sleep 2 - hour");
        int[] slept = {0, 1, 2, 0, 1, 2, 0};
        for (int n = 0; n < slept.length; n++) {
            due("slept, " + n + " on", x.ahead(0, n, 1), slept[n]);
            due("DEBT, " + n + " on", x.ahead(0, n, 2), n / 3);
        }
    }

    static void aheadWithoutThese() {
        says(14, "AHEAD what 0: 1 or 0, 1: slept, 2: DEBT. NONE without these");
        due("without a STREET", new SleepersPay().ahead(0, 0, 0), NONE);
        SleepersPay x = Edge.street(FIVE);
        due("the last", x.ahead(4, 2, 2), 1);
        for (int p : new int[] {LEAST, -1, 5, 32, GREATEST}) {
            due("ahead(" + p + ", 0, 0)", x.ahead(p, 0, 0), NONE);
        }
        for (int what : new int[] {LEAST, -1, 3, GREATEST}) {
            due("ahead(0, 0, " + what + ")", x.ahead(0, 0, what), NONE);
        }
    }
}
