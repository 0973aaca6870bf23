/** Each promise of the document by hand: ordinary inputs, its edges, wrong inputs. */
public final class PromiseTests {
    private static final int NONE = SleepersPay.NONE;
    /** HOURS cost 30, 42, 12 and 12. */
    private static final String A = "street 4;person 2 20;person 3 10;person 1 30;work 1 0 1;work 2 3 3;"
        + "lamp 0 30;lamp 9 12;lit 0 0 1;lit 1 1 3";
    private static final String THREE = "street 2;person 1 5;person 1 5;person 1 5;lamp 9 10;lit 0 0 1";
    private static final String FIVE = "street 2;person 0 0;person 0 0;person 0 0;person 0 0;person 0 0";
    private static final String NOBODY = "street 2;lamp 9 7;lit 0 0 0";

    private static int wrong = 0;
    private static int promise = 0;
    private static SleepersPay x;

    public static void main(String[] args) {
        newObject();
        feeds();
        ends();
        streets();
        streetFaults();
        rules();
        ruleFaults();
        forces();
        words();
        sums();
        persons();
        lamps();
        hours();
        sleeps();
        lights();
        undos();
        oweds();
        aheads();
        cheaps();
        rests();
        darks();
        guilds();
        facts();
        slepts();
        asks();
        nights();
        turneds();
        spites();
        seeds();
        lives();
        counts();
        images();
        System.out.println(wrong == 0 ? "PromiseTests: all answers are as due" : "PromiseTests: " + wrong + " wrong");
        if (wrong != 0) {
            System.exit(1);
        }
    }

    private static void due(String call, int got, int want) {
        if (got != want) {
            wrong++;
            System.out.println("promise " + promise + ": " + call + " answered " + got + ", due is " + want);
        }
    }

    private static void due(String call, boolean got, boolean want) {
        due(call, got ? 1 : 0, want ? 1 : 0);
    }

    private static void fresh(int number) {
        promise = number;
        x = new SleepersPay();
    }

    private static void fresh(int number, String street) {
        fresh(number);
        if (Telling.street(x, street) < 0) {
            wrong++;
            System.out.println("promise " + number + ": a street was refused: " + street);
        }
    }

    /** A RULE, and it is IN FORCE. */
    private static void inForce(String rule) {
        int number = Telling.rule(x, rule);
        due("rule " + rule, number >= 0, true);
        x.force(number);
    }

    private static void newObject() {
        fresh(1);
        for (int what = 0; what <= 15; what++) {
            due("count(" + what + ")", x.count(what), what == 6 ? NONE : 0);
        }
        due("hour()", x.hour(), NONE);
        due("force(0)", x.force(0), -2);
        due("back(0)", x.back(0), NONE);
        due("undo()", x.undo(), NONE);
        due("NONE", NONE, -1);
    }

    private static void feeds() {
        fresh(2);
        for (int i = 1; i <= 20; i++) {
            due("feed", x.feed(i, 0, -1, 0, 0), 20 * i);
        }
        due("feed", x.feed(1, 2, 3, 4, 5), NONE);
        due("count(15)", x.count(15), 400);
        x.end(381);
        due("feed", x.feed(1, 2, 3, 4, 5), NONE);
        due("count(15)", x.count(15), 381);
        x.end(380);
        due("feed", x.feed(1, 2, 3, 4, 5), 400);
        fresh(2);
        x.feed(0x73747265, 0x65742033, 0x20202020, 0x20202020, 0x20202020);
        due("street()", x.street(), 0);
        due("count(0)", x.count(0), 3);
        x.feed(0x73747265, 0x657420E9, 0x20202020, 0x20202020, 0x20202020);
        due("street()", x.street(), Telling.fault(7, 0));
    }

    private static void ends() {
        fresh(3);
        due("end(0)", x.end(0), 0);
        due("end(1)", x.end(1), NONE);
        x.feed(1, 2, 3, 4, 5);
        due("end(21)", x.end(21), NONE);
        due("end(-1)", x.end(-1), NONE);
        due("count(15)", x.count(15), 20);
        due("end(20)", x.end(20), 20);
        due("end(7)", x.end(7), 7);
        due("end(8)", x.end(8), NONE);
        due("count(15)", x.count(15), 7);
    }

    private static void streets() {
        fresh(4);
        due("street A", Telling.street(x, A), 3);
        due("count(15)", x.count(15), 0);
        Telling.rule(x, "sleep 1");
        x.force(0);
        x.seed(77);
        x.fact(0, 0, 0, 0);
        for (int i = 0; i < 7; i++) {
            x.hour();
        }
        x.light(0, true);
        due("street THREE", Telling.street(x, "  street2 ;person 1 5;person 1 5;person01 00005 ;lamp9 10;lit 0 0 1 "), 3);
        due("count(0)", x.count(0), 2);
        due("count(6)", x.count(6), 0);
        due("count(7)", x.count(7), 0);
        due("count(8)", x.count(8), 0);
        due("count(9)", x.count(9), 0);
        due("count(10)", x.count(10), 1);
        due("count(12)", x.count(12), 0);
        due("count(13)", x.count(13), 0);
        due("count(14)", x.count(14), 77);
        for (int p = 0; p < 3; p++) {
            due("DEBT", x.person(p, 4), 0);
            due("slept", x.person(p, 3), 0);
            due("owed", x.owed(p, 0), 0);
        }
        due("owed(NONE, 0)", x.owed(NONE, 0), 0);
        x.hour();
        due("a fault", Telling.street(x, "street 2;person 3 0"), Telling.fault(16, 1));
        due("count(1)", x.count(1), 3);
        due("count(7)", x.count(7), 1);
        due("count(13)", x.count(13), 1);
        due("count(15)", x.count(15), 0);
        due("behind a fault the TAPE begins anew", x.feed(0, 0, 0, 0, 0), 20);
        due("no people", Telling.street(x, NOBODY), 0);
        due("count(4)", x.count(4), 1);
        x.hour();
        due("no lamp of the last street burns", x.count(10), 0);
    }

    private static void badStreet(String text, int place, int kind) {
        due("'" + text + "'", Telling.street(x, text), Telling.fault(place, kind));
        due("count(15)", x.count(15), 0);
    }

    private static void streetFaults() {
        fresh(4);
        badStreet("", 0, 0);
        badStreet("  ", 2, 0);
        badStreet("street", 6, 0);
        badStreet("street ", 7, 0);
        badStreet("street 1", 7, 1);
        badStreet("street 11", 7, 1);
        badStreet("street 000003", 7, 1);
        badStreet("person 0 0", 0, 4);
        badStreet(" lit 0 0 0", 1, 4);
        badStreet("sleep 1", 0, 0);
        badStreet("street 2;street 2", 9, 4);
        badStreet("street 2;person 3 0", 16, 1);
        badStreet("street 2;person 0 61", 18, 1);
        badStreet("street 2;person 0", 17, 0);
        badStreet("street 2;person 0;", 17, 0);
        badStreet("street 2;work 0 0 0", 14, 1);
        badStreet("street 2;person 0 0;work 0 2 2", 27, 1);
        badStreet("street 2;person 0 0;work 0 1 0", 29, 1);
        badStreet("street 2;person 0 0;work 0 1 2", 29, 1);
        badStreet("street 2;person 0 0;work 1 0 0", 25, 1);
        badStreet("street 2;lamp 0 1", 14, 1);
        badStreet("street 2;lamp 8 1", 14, 1);
        badStreet("street 2;lamp 9 0", 16, 1);
        badStreet("street 2;lamp 9 61", 16, 1);
        badStreet("street 2;lamp x 61", 14, 0);
        badStreet("street 2;lit 0 0 0", 13, 1);
        badStreet("street 2;lamp 9 1;lit 0 2 2", 24, 1);
        badStreet("streets 2", 0, 0);
        badStreet("Street 2", 0, 0);
        badStreet("street 2;", 9, 0);
        badStreet("street 2;  ", 11, 0);
        badStreet("street 2;;", 9, 0);
        badStreet("street 2 2", 9, 0);
        badStreet("street 2.", 8, 0);
        badStreet("street -2", 7, 0);
        badStreet("street 2" + ";person 0 0".repeat(6), 64, 4);
        badStreet("street 2" + ";lamp 9 1".repeat(6), 54, 4);
        badStreet("street 2;person 0 0" + ";work 0 0 0".repeat(9), 108, 4);
        badStreet("street 2;lamp 9 1" + ";lit 0 0 0".repeat(9), 98, 4);
        badStreet("street 2" + ";person 0 0".repeat(5) + ";people 1 1", 64, 0);
        due("eight works", Telling.street(x, "street 2;person 0 0" + ";work 0 0 0".repeat(8)), 1);
        due("count(2)", x.count(2), 8);
        due("a lamp of a person", Telling.street(x, "street 2;person 0 0;lamp 0 60;lamp 00009 1"), 1);
        due("lamp(1, 0)", x.lamp(1, 0), 9);
    }

    private static void rules() {
        fresh(5);
        for (int i = 0; i < 6; i++) {
            due("rule", Telling.rule(x, "sleep " + i), i);
            due("count(15)", x.count(15), 0);
        }
        due("seventh rule", Telling.rule(x, "sleep 6"), NONE);
        due("count(15)", x.count(15), 7);
        due("count(5)", x.count(5), 6);
        due("a fault where there are six", Telling.rule(x, "sleep"), NONE);
        due("count(15)", x.count(15), 5);
    }

    private static void badRule(String text, int place, int kind) {
        due("'" + text + "'", Telling.rule(x, text), Telling.fault(place, kind));
        due("count(15)", x.count(15), 0);
    }

    private static void ruleFaults() {
        fresh(5);
        badRule("", 0, 0);
        due("behind a fault the TAPE begins anew", x.feed(0, 0, 0, 0, 0), 20);
        badRule("sleep", 5, 0);
        badRule("sleep 1 if", 10, 0);
        badRule("sleeps 1", 0, 0);
        badRule("street 2", 0, 0);
        badRule("sleep x", 6, 0);
        badRule("sleep sleep", 6, 0);
        badRule("sleep -1", 6, 0);
        badRule("sleep [1]", 6, 0);
        badRule("sleep 1;", 8, 0);
        badRule("sleep 1 2", 8, 0);
        badRule("sleep 1 if cost = 1]", 19, 0);
        badRule("sleep 1 if [cost = 1", 20, 0);
        badRule("sleep 1 if [cost = 1;", 20, 0);
        badRule("sleep 1 if [cost] = 1", 16, 0);
        badRule("sleep 5 %", 9, 0);
        badRule("sleep 123456", 6, 1);
        badRule("sleep 1 123456", 8, 0);
        badRule("sleep 1 if 1", 12, 0);
        badRule("sleep 1 if 1 and 1 = 1", 13, 0);
        badRule("sleep 1 if 1 < = 2", 15, 0);
        badRule("sleep 1 if 1 = = 2", 15, 0);
        badRule("sleep 1 if 1 <> 2", 14, 0);
        badRule("sleep 1 if 1 = 2 = 3", 17, 0);
        badRule("sleep 1 if 1 = 2 and", 20, 0);
        badRule("sleep 1 if 1 = 2 or", 19, 0);
        badRule("sleep street", 6, 0);
        badRule("sleep 1 if 1 = 2 or 1 zz 2", 22, 0);
        badRule("sleep 1+" + "*".repeat(390), 8, 0);
        badRule("+".repeat(400), 0, 0);
        badRule("sleep 1 if 1 = 2 not 1 = 1", 17, 0);
        badRule("sleep 1 if 1 = 2 if 1 = 1", 17, 0);
        badRule("sleep 1 if " + "[".repeat(11), 21, 2);
        badRule("sleep 1 if " + "not ".repeat(11) + "1=1", 51, 2);
        badRule("sleep 1 if " + "not[".repeat(5) + "not 1=1", 31, 2);
        badRule("sleep 1" + "+1".repeat(60), 126, 3);
        badRule("sleep 1" + "+1".repeat(59) + "+x", 126, 0);
        badRule("sleep 1" + "+1".repeat(59) + "+123456", 126, 1);
        badRule("sleep 1" + "+1".repeat(58) + " if 1=1", 128, 3);
        badRule("sleep 1" + "+1".repeat(58) + " if 1+", 129, 0);
        badRule("sleep 1" + "+1".repeat(57) + " if 1=1", 127, 3);
        badRule("sleep 1;".repeat(12) + "sleep 1", 96, 4);
        badRule("sleep 1;".repeat(12) + "sleeps 1", 96, 0);
        badRule("sleep 1;".repeat(12), 96, 0);
        due("count(5)", x.count(5), 0);
        due("ten deep", Telling.rule(x, "sleep 1 if " + "[".repeat(10) + "1=1" + "]".repeat(10)), 0);
        due("side by side", Telling.rule(x, "sleep 1 if not 1=1 and " + "not ".repeat(10) + "1=1 or not[1=1]"), 1);
        due("sixty", Telling.rule(x, "sleep 1" + "+1".repeat(56) + " if 1=1"), 2);
        due("twelve", Telling.rule(x, "sleep 1;".repeat(11) + "sleep 1"), 3);
        due("no blanks", Telling.rule(x, "sleep1if[cost<=1]and not2>=1"), 4);
        due("blanks", Telling.rule(x, "  sleep  00001  if  [  cost  <=  1  ]  "), 5);
    }

    private static void forces() {
        fresh(6);
        due("force(NONE)", x.force(NONE), NONE);
        Telling.rule(x, "sleep 1");
        Telling.rule(x, "sleep 0");
        due("force(1)", x.force(1), NONE);
        due("force(2)", x.force(2), -2);
        due("force(-2)", x.force(-2), -2);
        due("count(6)", x.count(6), 1);
        due("force(0)", x.force(0), 1);
        due("force(NONE)", x.force(NONE), 0);
        due("count(6)", x.count(6), NONE);
    }

    /** Whether each sleeps in the next HOUR by this RULE, as bits; nothing changes. */
    private static void byRule(String rule, int want) {
        inForce(rule);
        x.image(3);
        boolean endsNight = x.count(7) == x.count(0) - 1;
        int many = x.hour();
        due("by '" + rule + "' slept", many, Integer.bitCount(want));
        if (!endsNight) {
            due("by '" + rule + "' sleep", x.count(9), want);
        }
        x.back(3);
    }

    private static void words() {
        fresh(9, A);
        byRule("sleep person", 4);
        byRule("sleep 1 if need = 1 or worth = 20", 5);
        byRule("sleep 1 if cost = 30 and own = 30", 1);
        byRule("sleep 1 if hour = 0 and night = 0 and left = 4 and debt = 0", 5);
        byRule("sleep 1 - others", 1);
        fresh(9, A);
        x.sleep(2, true);
        byRule("sleep 1 if others = 0", 4);
        byRule("sleep asleep", 4);
        byRule("sleep 1 - asleep - others", 0);
        x.force(NONE);
        x.hour();
        byRule("sleep slept", 4);
        byRule("sleep 1 if owed = 30 and slept = 1 and asleep = 1 and left = 3 and hour = 1", 4);
        x.force(NONE);
        x.hour();
        x.hour();
        x.hour();
        due("count(8)", x.count(8), 1);
        byRule("sleep 1 if debt = 2 and night = 1 and slept = 0 and asleep = 0 and person = 0", 1);
        fresh(9, THREE);
        x.sleep(0, true);
        x.sleep(1, true);
        x.sleep(2, true);
        x.hour();
        byRule("sleep 1 if owed = 3", 7);
        fresh(9, A);
        x.light(1, true);
        byRule("sleep 1 if cost = 42", 5);
        x.light(0, false);
        byRule("sleep 1 if cost = 12 and own = 0", 5);
    }

    private static void sums() {
        fresh(9, "street 2;person 0 0");
        byRule("sleep 8/2*4-15", 1);
        byRule("sleep 2-1-1", 0);
        byRule("sleep 7%4-2", 1);
        byRule("sleep 1/0+1%0", 0);
        byRule("sleep 2+3*4-13", 1);
        fresh(9, "street 2;person 0 0");
        byRule("sleep 99999*99999*99999*99999", 99999L * 99999L * 99999L * 99999L > 0 ? 1 : 0);
        byRule("sleep 0-1", 0);
        byRule("sleep 0 if 1=1;sleep 1", 0);
        byRule("sleep 1 if 1=2;sleep 2 if 1=1;sleep 0", 1);
        byRule("sleep 1 if 1=2", 0);
        fresh(9, "street 2;person 0 0");
        byRule("sleep 1 if 1=1 or 1=1 and 1=2", 1);
        byRule("sleep 1 if [1=1 or 1=1] and 1=2", 0);
        byRule("sleep 1 if not 1=2 and 1=2", 0);
        byRule("sleep 1 if not [1=2 and 1=2]", 1);
        byRule("sleep 1 if 1<2 and 2<=2 and 2>=2 and 2>1 and not 2<2 and not 2>2", 1);
        byRule("sleep 1 if 1>=2 or 2<=1", 0);
    }

    private static void persons() {
        fresh(7);
        due("person(0, 0)", x.person(0, 0), NONE);
        fresh(7, A);
        due("person(0, 0)", x.person(0, 0), 2);
        due("person(1, 1)", x.person(1, 1), 10);
        due("person(1, 5)", x.person(1, 5), 1);
        due("person(0, 5)", x.person(0, 5), 0);
        due("person(0, 2)", x.person(0, 2), 0);
        x.sleep(0, true);
        due("person(0, 2)", x.person(0, 2), 1);
        due("person(0, 3)", x.person(0, 3), 0);
        x.hour();
        due("person(0, 3)", x.person(0, 3), 1);
        x.hour();
        x.hour();
        due("person(1, 5)", x.person(1, 5), 0);
        due("person(2, 5)", x.person(2, 5), 1);
        x.hour();
        due("person(0, 4): slept more", x.person(0, 4), 0);
        due("person(1, 4)", x.person(1, 4), 3);
        due("person(2, 4)", x.person(2, 4), 1);
        for (int i = 0; i < 4; i++) {
            x.hour();
        }
        due("person(1, 4)", x.person(1, 4), 6);
        due("person(0, 4)", x.person(0, 4), 2);
        x.sleep(0, true);
        for (int i = 0; i < 4; i++) {
            x.hour();
        }
        due("person(0, 4): less again", x.person(0, 4), 0);
        due("person(3, 0)", x.person(3, 0), NONE);
        due("person(-1, 0)", x.person(-1, 0), NONE);
        due("person(0, 6)", x.person(0, 6), NONE);
        due("person(0, -1)", x.person(0, -1), NONE);
    }

    private static void lamps() {
        fresh(8);
        due("lamp(0, 0)", x.lamp(0, 0), NONE);
        fresh(8, A);
        due("lamp(0, 0)", x.lamp(0, 0), 0);
        due("lamp(1, 0)", x.lamp(1, 0), 9);
        due("lamp(0, 1)", x.lamp(0, 1), 30);
        due("lamp(0, 2)", x.lamp(0, 2), 1);
        due("lamp(1, 2)", x.lamp(1, 2), 0);
        x.hour();
        due("lamp(1, 2)", x.lamp(1, 2), 1);
        due("lamp(0, 3)", x.lamp(0, 3), NONE);
        due("lamp(0, -1)", x.lamp(0, -1), NONE);
        due("lamp(2, 0)", x.lamp(2, 0), NONE);
        due("lamp(-1, 0)", x.lamp(-1, 0), NONE);
    }

    private static void hours() {
        fresh(9);
        due("hour()", x.hour(), NONE);
        fresh(9, A);
        due("hour()", x.hour(), 0);
        due("the town owes", x.owed(NONE, 0), 30);
        x.sleep(0, true);
        x.sleep(2, true);
        due("hour()", x.hour(), 2);
        due("owed(0, 0)", x.owed(0, 0), 21);
        due("owed(2, 0)", x.owed(2, 0), 21);
        due("count(9)", x.count(9), 5);
        x.hour();
        due("who works sleeps still ahead of the HOUR", x.person(2, 2), 1);
        due("hour()", x.hour(), 1);
        due("owed(2, 0)", x.owed(2, 0), 27);
        due("owed(0, 0)", x.owed(0, 0), 39);
        due("count(7)", x.count(7), 0);
        due("count(8)", x.count(8), 1);
        due("count(9)", x.count(9), 0);
        due("count(13)", x.count(13), 6);
        inForce("sleep 1");
        due("who works wakes", x.hour(), 2);
        due("count(9)", x.count(9), 5);
        due("nobody there", Telling.street(x, NOBODY), 0);
        due("hour()", x.hour(), 0);
        due("owed(NONE, 0)", x.owed(NONE, 0), 7);
    }

    private static void sleeps() {
        fresh(10);
        due("sleep(0, true)", x.sleep(0, true), false);
        fresh(10, A);
        due("sleep(0, false)", x.sleep(0, false), false);
        due("sleep(0, true)", x.sleep(0, true), true);
        due("sleep(0, true)", x.sleep(0, true), false);
        due("who works", x.sleep(1, true), false);
        due("sleep(3, true)", x.sleep(3, true), false);
        due("sleep(-1, true)", x.sleep(-1, true), false);
        due("count(9)", x.count(9), 1);
        due("count(13)", x.count(13), 1);
        due("sleep(0, false)", x.sleep(0, false), true);
        due("count(9)", x.count(9), 0);
        x.sleep(2, true);
        x.hour();
        x.hour();
        x.hour();
        due("works, sleeps still: SLEEP", x.sleep(2, true), false);
        due("works, sleeps still: WAKE", x.sleep(2, false), true);
        due("works, wakes: SLEEP", x.sleep(2, true), false);
    }

    private static void lights() {
        fresh(11);
        due("light(0, true)", x.light(0, true), false);
        fresh(11, A);
        due("light(0, true)", x.light(0, true), false);
        due("light(1, false)", x.light(1, false), false);
        due("light(2, true)", x.light(2, true), false);
        due("light(-1, false)", x.light(-1, false), false);
        due("light(0, false)", x.light(0, false), true);
        due("light(0, false)", x.light(0, false), false);
        due("count(10)", x.count(10), 0);
        x.hour();
        due("out in an HOUR told", x.count(10), 2);
        due("light(0, true)", x.light(0, true), true);
        x.hour();
        due("lit in an HOUR not told", x.count(10), 3);
        x.hour();
        due("count(11)", x.count(11), 42);
        due("light(1, false)", x.light(1, false), true);
        due("count(10)", x.count(10), 1);
        x.hour();
        due("as told in the next NIGHT", x.count(10), 1);
        x.hour();
        due("as told", x.count(10), 3);
        x.hour();
        due("as told", x.count(10), 2);
    }

    private static void undos() {
        fresh(12, A);
        due("undo()", x.undo(), NONE);
        x.sleep(0, true);
        x.light(0, false);
        x.light(1, true);
        x.hour();
        x.seed(5);
        x.fact(0, 0, 0, 0);
        due("owed(0, 0)", x.owed(0, 0), 12);
        due("undo()", x.undo(), 3);
        due("owed(0, 0)", x.owed(0, 0), 0);
        due("person(0, 3)", x.person(0, 3), 0);
        due("count(7)", x.count(7), 0);
        due("count(10)", x.count(10), 2);
        due("undo()", x.undo(), 2);
        due("undo()", x.undo(), 1);
        due("count(10)", x.count(10), 1);
        due("undo()", x.undo(), 0);
        due("count(9)", x.count(9), 0);
        due("undo()", x.undo(), NONE);
        due("x stays", x.count(14), 5);
        due("FACTS stay", x.count(12), 1);
        for (int i = 0; i < 23; i++) {
            x.hour();
        }
        due("count(13)", x.count(13), 20);
        for (int i = 19; i >= 0; i--) {
            due("undo()", x.undo(), i);
        }
        due("undo()", x.undo(), NONE);
        due("HOUR of the third", x.count(7), 3);
        x.hour();
        due("NIGHT", x.count(8), 1);
        due("DEBT", x.person(1, 4), 3);
        x.undo();
        due("NIGHT", x.count(8), 0);
        due("DEBT", x.person(1, 4), 0);
    }

    private static void oweds() {
        fresh(13);
        due("owed(NONE, 0)", x.owed(NONE, 0), NONE);
        fresh(13, THREE);
        due("owed(0, 0)", x.owed(0, 0), 0);
        due("owed(0, 1)", x.owed(0, 1), 1);
        x.sleep(0, true);
        x.sleep(1, true);
        x.sleep(2, true);
        x.hour();
        due("owed(1, 0)", x.owed(1, 0), 10);
        due("owed(1, 1)", x.owed(1, 1), 3);
        x.sleep(2, false);
        x.hour();
        due("owed(1, 0)", x.owed(1, 0), 25);
        due("owed(1, 1)", x.owed(1, 1), 3);
        due("owed(2, 0)", x.owed(2, 0), 10);
        x.hour();
        due("owed(NONE, 0)", x.owed(NONE, 0), 10);
        due("owed(NONE, 1)", x.owed(NONE, 1), 1);
        due("owed(3, 0)", x.owed(3, 0), NONE);
        due("owed(-2, 0)", x.owed(-2, 0), NONE);
        due("owed(0, 2)", x.owed(0, 2), NONE);
        due("owed(0, -1)", x.owed(0, -1), NONE);
    }

    private static void aheads() {
        fresh(14);
        due("ahead(0, 0, 0)", x.ahead(0, 0, 0), NONE);
        fresh(14, A);
        x.sleep(0, true);
        due("ahead(0, 0, 0)", x.ahead(0, 0, 0), 1);
        due("ahead(0, 3, 1)", x.ahead(0, 3, 1), 3);
        due("ahead(0, 3, 0)", x.ahead(0, 3, 0), 1);
        due("ahead(0, 4, 0)", x.ahead(0, 4, 0), 0);
        due("ahead(0, 4, 1)", x.ahead(0, 4, 1), 0);
        due("ahead(1, 4, 2)", x.ahead(1, 4, 2), 3);
        due("ahead(0, 8, 2)", x.ahead(0, 8, 2), 2);
        due("ahead(1, 100, 2)", x.ahead(1, 100, 2), 75);
        inForce("sleep 1");
        due("ahead(1, 3, 0)", x.ahead(1, 3, 0), 1);
        due("ahead(1, 2, 0)", x.ahead(1, 2, 0), 0);
        due("ahead(2, 3, 0): they sleep till they wake", x.ahead(2, 3, 0), 1);
        due("ahead(1, 100, 2)", x.ahead(1, 100, 2), 25);
        due("ahead(0, 101, 0)", x.ahead(0, 101, 0), NONE);
        due("ahead(0, -1, 0)", x.ahead(0, -1, 0), NONE);
        due("ahead(0, 0, 3)", x.ahead(0, 0, 3), NONE);
        due("ahead(3, 0, 0)", x.ahead(3, 0, 0), NONE);
        due("count(7)", x.count(7), 0);
    }

    private static void cheaps() {
        fresh(15);
        due("cheap(0, 0, 0)", x.cheap(0, 0, 0), NONE);
        fresh(15, A);
        due("cheap(0, 1, 0)", x.cheap(0, 1, 0), 4);
        due("cheap(0, 2, 0)", x.cheap(0, 2, 0), 12);
        due("cheap(0, 3, 0)", x.cheap(0, 3, 0), 13);
        due("cheap(0, 3, 1)", x.cheap(0, 3, 1), 54);
        due("cheap(0, 3, 2)", x.cheap(0, 3, 2), 1);
        due("cheap(0, 0, 0)", x.cheap(0, 0, 0), 0);
        due("cheap(0, 0, 1)", x.cheap(0, 0, 1), 0);
        due("cheap(0, 0, 2)", x.cheap(0, 0, 2), 1);
        due("cheap(0, 5, 0)", x.cheap(0, 5, 0), -2);
        due("cheap(1, 3, 0)", x.cheap(1, 3, 0), -2);
        due("cheap(1, 2, 0)", x.cheap(1, 2, 0), 12);
        due("cheap(2, 3, 0)", x.cheap(2, 3, 0), 7);
        x.sleep(2, true);
        due("others stay", x.cheap(0, 4, 1), 48);
        due("but not oneself", x.cheap(2, 1, 1), 12);
        x.light(0, false);
        due("by ACTS", x.cheap(0, 2, 0), 3);
        x.hour();
        due("HOURS left", x.cheap(0, 4, 0), -2);
        due("HOURS left", x.cheap(0, 1, 0), 2);
        due("cheap(0, 1, 1)", x.cheap(0, 1, 1), 6);
        due("cheap(0, 11, 0)", x.cheap(0, 11, 0), NONE);
        due("cheap(0, -1, 0)", x.cheap(0, -1, 0), NONE);
        due("cheap(0, 1, 3)", x.cheap(0, 1, 3), NONE);
        due("cheap(3, 1, 0)", x.cheap(3, 1, 0), NONE);
        fresh(15, THREE);
        x.sleep(1, true);
        x.sleep(2, true);
        due("cheap(0, 1, 1)", x.cheap(0, 1, 1), 10);
        due("cheap(0, 1, 2)", x.cheap(0, 1, 2), 3);
        fresh(15, "street 10;person 10 0;lamp 9 1;lit 0 0 9");
        due("ten HOURS", x.cheap(0, 10, 0), 1023);
        due("ten HOURS", x.cheap(0, 10, 1), 10);
        due("ten HOURS", x.nights(0, 8, 0, NONE), 80);
        due("ten HOURS", x.nights(0, 8, 0, 7), 10);
    }

    private static void rests() {
        fresh(16);
        due("rest(0)", x.rest(0), NONE);
        fresh(16, THREE);
        due("rest(0)", x.rest(0), 2);
        due("rest(1)", x.rest(1), 0);
        due("rest(2)", x.rest(2), 7);
        due("rest(3)", x.rest(3), NONE);
        due("rest(-1)", x.rest(-1), NONE);
        fresh(16, "street 2;person 0 10;person 0 7;lamp 9 10;lit 0 0 0");
        due("WORTH is not more", x.rest(0), 2);
        fresh(16, "street 2;person 0 5;person 0 5;lamp 9 10;lit 0 0 0");
        due("WORTH is not more: both", x.rest(2), 3);
        due("WORTH is not more: none", x.rest(1), 0);
        fresh(16, "street 2;person 0 10;person 0 7;lamp 9 10;lit 0 0 0");
        due("rest(1)", x.rest(1), 0);
        due("rest(2)", x.rest(2), 3);
        x.hour();
        due("free light", x.rest(1), 3);
        fresh(16, "street 2;person 0 9;person 0 7;work 1 0 0;lamp 9 10;lit 0 0 0");
        due("who works is not asked", x.rest(0), 1);
        due("rest(2)", x.rest(2), 0);
        fresh(16, NOBODY);
        due("nobody", x.rest(0), 1);
        due("nobody", x.rest(2), 0);
    }

    private static void darks() {
        fresh(17);
        due("dark(0)", x.dark(0), NONE);
        fresh(17, A);
        due("dark(0)", x.dark(0), 0);
        x.hour();
        due("42 by two of 20 and 30", x.dark(0), 1);
        due("the least set", x.dark(1), 1);
        x.light(0, false);
        due("dark(0)", x.dark(0), 0);
        due("dark(1)", x.dark(1), 0);
        due("dark(2)", x.dark(2), NONE);
        due("dark(-1)", x.dark(-1), NONE);
        fresh(17, "street 2;person 0 0;lamp 9 1;lamp 9 2;lamp 9 3;lit 0 0 1;lit 2 0 1");
        due("dark(0)", x.dark(0), 2);
        due("dark(1)", x.dark(1), 5);
        fresh(17, "street 2;person 0 0;work 0 0 0;lamp 9 1;lit 0 0 1");
        due("all work", x.dark(0), 0);
        fresh(17, "street 2;person 0 4;lamp 9 2;lamp 9 3;lamp 9 4;lit 0 0 1;lit 1 0 1;lit 2 0 1");
        due("two of three", x.dark(0), 2);
        due("the least", x.dark(1), 3);
        fresh(17, "street 2;person 0 5;lamp 9 3;lamp 9 4;lamp 9 1;lit 0 0 1;lit 1 0 1;lit 2 0 1");
        due("either of two", x.dark(0), 1);
        due("the least of two", x.dark(1), 1);
    }

    private static void guilds() {
        fresh(18);
        due("guild(1, 0, 0)", x.guild(1, 0, 0), NONE);
        fresh(18, A);
        due("guild(5, 1, 0)", x.guild(5, 1, 0), 4);
        due("guild(5, 2, 0)", x.guild(5, 2, 0), 5);
        due("guild(5, 2, 1)", x.guild(5, 2, 1), 42);
        due("guild(5, 2, 2)", x.guild(5, 2, 2), 1);
        due("guild(7, 1, 0)", x.guild(7, 1, 0), 4);
        due("guild(7, 2, 0)", x.guild(7, 2, 0), -2);
        due("guild(7, 0, 0)", x.guild(7, 0, 0), 0);
        due("guild(1, 1, 0)", x.guild(1, 1, 0), 4);
        due("guild(2, 2, 1)", x.guild(2, 2, 1), 24);
        due("guild(0, 1, 0)", x.guild(0, 1, 0), NONE);
        due("guild(8, 1, 0)", x.guild(8, 1, 0), NONE);
        due("guild(-1, 1, 0)", x.guild(-1, 1, 0), NONE);
        due("guild(1, 11, 0)", x.guild(1, 11, 0), NONE);
        due("guild(1, -1, 0)", x.guild(1, -1, 0), NONE);
        due("guild(1, 1, 3)", x.guild(1, 1, 3), NONE);
        fresh(18, THREE);
        x.sleep(2, true);
        due("guild(3, 1, 1)", x.guild(3, 1, 1), 20);
        due("guild(3, 1, 2)", x.guild(3, 1, 2), 3);
        due("one who sleeps", x.guild(4, 2, 1), 20);
    }

    private static void facts() {
        fresh(19);
        due("fact(2, 1, 0, 0)", x.fact(2, 1, 0, 0), -2);
        due("fact(NONE, ..) without a STREET", x.fact(NONE, 0, 0, 0), 0);
        due("fact(-2, ..) without a STREET", x.fact(-2, 0, 0, 0), -2);
        fresh(19, A);
        due("fact(0, 2, -5, 999)", x.fact(0, 2, -5, 999), 1);
        due("fact(1, 3, 0, 0)", x.fact(1, 3, 0, 0), -2);
        due("fact(2, 5, -5, 999)", x.fact(2, 5, -5, 999), 2);
        due("fact(2, 6, 0, 0)", x.fact(2, 6, 0, 0), -2);
        due("fact(2, 0, 0, 0)", x.fact(2, 0, 0, 0), 3);
        due("fact(3, -1, 0, 0)", x.fact(3, -1, 0, 0), -2);
        due("fact(4, 0, 300, 300)", x.fact(4, 0, 300, 300), 4);
        due("fact(5, 2, 0, 0)", x.fact(5, 2, 0, 0), 5);
        due("fact(4, 0, 301, 300)", x.fact(4, 0, 301, 300), -2);
        due("fact(5, 0, 300, 301)", x.fact(5, 0, 300, 301), -2);
        due("fact(5, 0, -1, 0)", x.fact(5, 0, -1, 0), -2);
        due("fact(5, 0, 0, -1)", x.fact(5, 0, 0, -1), -2);
        due("fact(5, 3, 0, 0)", x.fact(5, 3, 0, 0), -2);
        due("fact(6, 0, 0, 0)", x.fact(6, 0, 0, 0), -2);
        due("fact(-2, 0, 0, 0)", x.fact(-2, 0, 0, 0), -2);
        for (int i = 6; i <= 10; i++) {
            due("fact(3, 5, 0, 0)", x.fact(3, 5, 0, 0), i);
        }
        due("an eleventh", x.fact(3, 5, 0, 0), -2);
        due("count(12)", x.count(12), 10);
        due("fact(NONE, ..)", x.fact(NONE, 99, -1, -1), 0);
        due("count(12)", x.count(12), 0);
        due("fact(0, 0, 0, 0)", x.fact(0, 0, 0, 0), 1);
    }

    private static void slepts() {
        fresh(20);
        due("slept(0)", x.slept(0), NONE);
        fresh(20, A);
        due("slept(0)", x.slept(0), 8);
        due("slept(1)", x.slept(1), 0);
        due("slept(2)", x.slept(2), 0);
        due("slept(3)", x.slept(3), 0);
        x.fact(2, 2, 0, 0);
        due("two at least", x.slept(0), 4);
        due("the least", x.slept(1), 3);
        x.fact(1, 1, 0, 0);
        due("slept(0)", x.slept(0), 1);
        due("slept(1)", x.slept(1), 5);
        due("slept(2)", x.slept(2), 5);
        due("slept(3)", x.slept(3), 2);
        x.fact(NONE, 0, 0, 0);
        x.fact(1, 0, 0, 0);
        due("who in none: the first", x.slept(3), 1);
        x.fact(2, 2, 0, 0);
        due("the last alone fits", x.slept(1), 6);
        x.fact(NONE, 0, 0, 0);
        x.fact(2, 3, 0, 0);
        due("all of them", x.slept(1), 7);
        x.fact(NONE, 0, 0, 0);
        x.fact(2, 2, 0, 0);
        x.fact(1, 1, 0, 0);
        x.fact(0, 1, 0, 0);
        due("none", x.slept(0), 0);
        due("none", x.slept(1), -2);
        due("none", x.slept(2), 0);
        due("none", x.slept(3), 0);
        due("slept(4)", x.slept(4), NONE);
        due("slept(-1)", x.slept(-1), NONE);
        x.fact(NONE, 0, 0, 0);
        x.fact(4, 0, 3, 10);
        due("10 by three is more than 3", x.slept(0), 0);
        x.fact(NONE, 0, 0, 0);
        x.fact(4, 0, 5, 10);
        due("5 at most", x.slept(0), 3);
        due("5 at most", x.slept(2), 1);
        x.fact(5, 1, 3, 10);
        due("more than 3", x.slept(0), 2);
        x.fact(3, 2, 0, 0);
        due("two at most", x.slept(1), 3);
        due("two at most", x.slept(3), 4);
        x.fact(5, 0, 5, 10);
        due("5 is not more than 5", x.slept(0), 0);
    }

    private static void asks() {
        fresh(21);
        due("ask(0)", x.ask(0), NONE);
        fresh(21, A);
        due("ask(0)", x.ask(0), 0);
        due("ask(1)", x.ask(1), 4);
        x.fact(3, 1, 0, 0);
        due("three of four without", x.ask(1), 3);
        x.fact(1, 0, 0, 0);
        due("not who surely woke", x.ask(0), 1);
        due("two of three without", x.ask(1), 2);
        x.fact(NONE, 0, 0, 0);
        x.fact(2, 3, 0, 0);
        due("one set alone", x.ask(0), 0);
        due("one set alone", x.ask(1), 1);
        x.fact(NONE, 0, 0, 0);
        x.fact(2, 1, 0, 0);
        x.fact(0, 0, 0, 0);
        due("ask(0)", x.ask(0), 1);
        due("ask(1)", x.ask(1), 2);
        x.fact(4, 1, 0, 0);
        due("ask(0)", x.ask(0), 2);
        due("ask(1)", x.ask(1), 1);
        x.fact(1, 0, 0, 0);
        due("none", x.ask(0), -2);
        due("none", x.ask(1), -2);
        due("ask(2)", x.ask(2), NONE);
        due("ask(-1)", x.ask(-1), NONE);
        fresh(21, NOBODY);
        due("no PEOPLE", x.ask(0), -2);
        due("no PEOPLE", x.ask(1), -2);
    }

    private static void nights() {
        fresh(22);
        due("nights(0, 1, 0, NONE)", x.nights(0, 1, 0, NONE), -3);
        fresh(22, A);
        due("two HOURS of 12", x.nights(0, 1, 0, NONE), 24);
        due("nights(0, 1, 0, 0)", x.nights(0, 1, 0, 0), 2);
        due("so many there are not", x.nights(0, 1, 0, 1), -2);
        due("one of two nights", x.nights(0, 2, 2, NONE), 24);
        due("the first row", x.nights(0, 2, 2, 0), 0);
        due("the first row", x.nights(0, 2, 2, 1), 2);
        due("a bound that all meet", x.nights(0, 8, 99, NONE), 0);
        due("a bound that all meet", x.nights(0, 8, 99, 7), 0);
        due("NEED 3, two free", x.nights(1, 1, 0, NONE), -2);
        due("NEED 3, two free", x.nights(1, 1, 1, NONE), 24);
        due("NEED 3, two free", x.nights(1, 2, 2, 0), 2);
        for (int i = 0; i < 4; i++) {
            x.hour();
        }
        due("DEBT of 2", x.nights(0, 1, 1, NONE), -2);
        due("DEBT of 2", x.nights(0, 1, 2, NONE), 24);
        due("DEBT of 2", x.nights(0, 1, 3, NONE), 12);
        x.light(1, true);
        x.light(0, false);
        due("as told, not by ACTS", x.nights(0, 1, 3, NONE), 12);
        due("nights(3, ..)", x.nights(3, 1, 0, 0), -3);
        due("nights(-1, ..)", x.nights(-1, 1, 0, 0), -3);
        due("nights(0, 0, ..)", x.nights(0, 0, 0, 0), -3);
        due("nights(0, 9, ..)", x.nights(0, 9, 0, 0), -3);
        due("nights(0, 1, -1, ..)", x.nights(0, 1, -1, 0), -3);
        due("nights(0, 1, 100, ..)", x.nights(0, 1, 100, 0), -3);
        due("nights(.., 8)", x.nights(0, 1, 0, 8), -3);
        due("nights(.., -2)", x.nights(0, 1, 0, -2), -3);
        fresh(22, "street 3;person 3 0;lamp 9 1;lamp 9 2;lit 0 1 2;lit 1 2 2");
        due("0, 1 and 3: free HOURS, then even", x.nights(0, 3, 4, NONE), 2);
        due("row", x.nights(0, 3, 4, 0), 1);
        due("row", x.nights(0, 3, 4, 1), 2);
        due("row", x.nights(0, 3, 4, 2), 2);
    }

    private static void turneds() {
        fresh(23);
        due("turned(0, 1, 0)", x.turned(0, 1, 0), -1000000);
        fresh(23, A);
        due("all three wake", x.turned(0, 1, 0), 10);
        due("turned(0, 2, 0)", x.turned(0, 2, 0), 24);
        x.sleep(0, true);
        due("turned(0, 1, 0)", x.turned(0, 1, 0), -30);
        due("turned(0, 1, 1)", x.turned(0, 1, 1), 1);
        due("turned(1, 1, 0)", x.turned(1, 1, 0), 15);
        due("turned(1, 5, 0)", x.turned(1, 5, 0), 58);
        fresh(23, "street 2;person 0 0;lamp 9 7;lit 0 0 1");
        x.sleep(0, true);
        due("nobody wakes: the town", x.turned(0, 1, 0), -7);
        fresh(23, "street 2;person 0 0;person 0 0;person 0 0;lamp 9 7;lit 0 0 1");
        due("a third", x.turned(0, 1, 0), 7);
        due("a third", x.turned(0, 1, 1), 3);
        fresh(23, "street 3;person 0 0;lamp 9 60;lit 0 0 2");
        inForce("sleep 1 - owed");
        due("HOURS as they are: asleep, awake, awake", x.turned(0, 3, 0), 60);
        due("the same HOURS in the next NIGHT", x.turned(0, 6, 0), 240);
        x.hour();
        due("what was owed ahead of these is left out", x.turned(0, 1, 0), 60);
        due("owed(0, 0)", x.owed(0, 0), 60);
        due("turned(0, 0, 0)", x.turned(0, 0, 0), -1000000);
        due("turned(0, 61, 0)", x.turned(0, 61, 0), -1000000);
        due("turned(0, 60, 2)", x.turned(0, 60, 2), -1000000);
        due("turned(0, 60, -1)", x.turned(0, 60, -1), -1000000);
        due("turned(1, 1, 0)", x.turned(1, 1, 0), -1000000);
        due("turned(NONE, 1, 0)", x.turned(NONE, 1, 0), -1000000);
        due("count(7)", x.count(7), 1);
        fresh(23, "street 2;person 0 0;lamp 9 60;lit 0 0  1");
        inForce("sleep 1 if owed <  1");
        due("they owe as much for these", x.turned(0, 2, 0), 0);
        due("they owe as much for these", x.turned(0, 2, 1), 1);
        fresh(23, "street 2;person 0 0;person 0 0;work 1 0 1;lamp 9 10;lit 0 0 1");
        inForce("sleep 1");
        due("who works wakes, and would pay", x.turned(1, 2, 0), 20);
        due("who sleeps till the NIGHT is over", x.turned(0, 2, 0), -20);
        due("and through the next", x.turned(0, 4, 0), -40);
    }

    private static void spites() {
        fresh(24);
        due("spite(0, NONE, 1, 0)", x.spite(0, NONE, 1, 0), -1000000);
        fresh(24, A);
        due("spite(0, NONE, 1, 0)", x.spite(0, NONE, 1, 0), 30);
        due("till the NIGHT is over", x.spite(0, NONE, 60, 0), 120);
        due("spite(1, NONE, 1, 0)", x.spite(1, NONE, 1, 0), 12);
        due("spite(0, 0, 1, 0)", x.spite(0, 0, 1, 0), 0);
        due("spite(0, 0, 1, 1)", x.spite(0, 0, 1, 1), 1);
        x.sleep(0, true);
        x.sleep(2, true);
        due("spite(1, 0, 4, 0)", x.spite(1, 0, 4, 0), 30);
        inForce("sleep 1 if cost <= 30 and person = 0");
        due("they wake by its light", x.spite(1, 0, 1, 0), -30);
        due("spite(2, 0, 1, 0)", x.spite(2, 0, 1, 0), -1000000);
        due("spite(-1, 0, 1, 0)", x.spite(-1, 0, 1, 0), -1000000);
        due("spite(0, 3, 1, 0)", x.spite(0, 3, 1, 0), -1000000);
        due("spite(0, -2, 1, 0)", x.spite(0, -2, 1, 0), -1000000);
        due("spite(0, 0, 0, 0)", x.spite(0, 0, 0, 0), -1000000);
        due("spite(0, 0, 61, 0)", x.spite(0, 0, 61, 0), -1000000);
        due("spite(0, 0, 1, 2)", x.spite(0, 0, 1, 2), -1000000);
        due("count(10)", x.count(10), 1);
        fresh(24, "street 2;person 0 0;person 0 0;person 0 0;lamp 9 7;lit 0 0 1");
        x.sleep(0, true);
        x.sleep(1, true);
        x.sleep(2, true);
        due("a third", x.spite(0, 1, 1, 0), 7);
        due("a third", x.spite(0, 1, 1, 1), 3);
    }

    private static void seeds() {
        fresh(25);
        due("seed(5)", x.seed(5), 0);
        due("seed(-1)", x.seed(-1), NONE);
        due("count(14)", x.count(14), 5);
        due("seed(2147483647)", x.seed(2147483647), 5);
        due("seed(0)", x.seed(0), 2147483647);
    }

    private static int drawnBelow(long seed, int draws, int p) {
        int many = 0;
        for (int i = 0; i < draws; i++) {
            seed = (seed * 1103515245L + 12345L) % 2147483648L;
            many += seed / 65536 % 100 < p ? 1 : 0;
        }
        return many;
    }

    private static void lives() {
        fresh(26);
        due("lives(1, 1, 0, 0)", x.lives(1, 1, 0, 0), NONE);
        fresh(26, A);
        due("nobody sleeps", x.lives(1, 4, 0, 0), 0);
        due("the town owes all", x.lives(1, 4, 0, 1), 96);
        due("ten times, two nights", x.lives(10, 8, 0, 1), 1920);
        due("all who don't work sleep", x.lives(2, 4, 100, 0), 18);
        due("the town owes nothing", x.lives(2, 4, 100, 1), 0);
        fresh(26, "street 2;person 0 0;lamp 9 5;lit 0 0 1");
        x.seed(12);
        int slept = drawnBelow(12, 15, 40);
        due("by draws", x.lives(3, 5, 40, 0), slept);
        due("by draws", x.lives(3, 5, 40, 1), (15 - slept) * 5);
        for (int p = 0; p <= 100; p++) {
            due("by draws", x.lives(10, 60, p, 0), drawnBelow(12, 600, p));
        }
        due("x as it was", x.count(14), 12);
        due("nothing stays", x.count(7), 0);
        inForce("sleep 1");
        due("no RULE is asked", x.lives(1, 1, 0, 0), 0);
        due("lives(0, ..)", x.lives(0, 1, 0, 0), NONE);
        due("lives(11, ..)", x.lives(11, 1, 0, 0), NONE);
        due("lives(.., 0, ..)", x.lives(1, 0, 0, 0), NONE);
        due("lives(.., 61, ..)", x.lives(1, 61, 0, 0), NONE);
        due("lives(.., -1, ..)", x.lives(1, 1, -1, 0), NONE);
        due("lives(.., 101, ..)", x.lives(1, 1, 101, 0), NONE);
        due("lives(.., 2)", x.lives(1, 1, 0, 2), NONE);
        due("lives(.., -1)", x.lives(1, 1, 0, -1), NONE);
    }

    private static void counts() {
        fresh(27, A);
        inForce("sleep 1");
        x.seed(9);
        x.fact(0, 0, 0, 0);
        x.hour();
        x.feed(0, 0, 0, 0, 0);
        int[] want = {4, 3, 2, 2, 2, 1, 0, 1, 0, 5, 3, 42, 1, 1, 9, 20};
        for (int what = 0; what < want.length; what++) {
            due("count(" + what + ")", x.count(what), want[what]);
        }
        due("count(16)", x.count(16), NONE);
        due("count(-1)", x.count(-1), NONE);
        due("five PEOPLE", Telling.street(x, FIVE), 5);
        x.hour();
        due("count(9)", x.count(9), 31);
    }

    private static void images() {
        fresh(28);
        due("image(4)", x.image(4), NONE);
        due("image(-1)", x.image(-1), NONE);
        due("back(0)", x.back(0), NONE);
        due("without a STREET", x.image(0), 0);
        Telling.street(x, A);
        inForce("sleep 1");
        x.seed(9);
        x.fact(0, 0, 0, 0);
        for (int i = 0; i < 5; i++) {
            x.hour();
        }
        x.light(0, false);
        due("image(1)", x.image(1), 1);
        due("ACTS stay", x.count(13), 6);
        promise = 29;
        int owed = x.owed(0, 0);
        x.hour();
        x.hour();
        x.fact(1, 1, 0, 0);
        x.seed(3);
        inForce("sleep 0");
        Telling.street(x, THREE);
        x.feed(0, 0, 0, 0, 0);
        due("back(1)", x.back(1), 1);
        due("HOURS", x.count(0), 4);
        due("HOUR", x.count(7), 1);
        due("LAMPS", x.count(10), 2);
        due("FACTS", x.count(12), 1);
        due("ACTS", x.count(13), 0);
        due("x", x.count(14), 9);
        due("RULE IN FORCE", x.count(6), 0);
        due("RULES", x.count(5), 2);
        due("TAPE", x.count(15), 20);
        due("owed(0, 0)", x.owed(0, 0), owed);
        due("undo()", x.undo(), NONE);
        x.hour();
        due("back(1) again", x.back(1), 1);
        due("HOUR", x.count(7), 1);
        due("nothing can be UNDONE", x.undo(), NONE);
        x.fact(NONE, 0, 0, 0);
        x.fact(1, 0, 0, 0);
        x.fact(5, 1, 20, 30);
        x.image(2);
        due("slept(1)", x.slept(1), 2);
        x.fact(NONE, 0, 0, 0);
        x.fact(3, 1, 0, 0);
        x.fact(4, 2, 30, 20);
        due("slept(1)", x.slept(1), 4);
        x.back(2);
        due("FACTS as they were", x.slept(0), 1);
        due("FACTS as they were", x.slept(1), 2);
        due("back(0)", x.back(0), 0);
        due("no STREET", x.count(0), 0);
        due("hour()", x.hour(), NONE);
        due("never made", x.back(3), NONE);
        due("back(4)", x.back(4), NONE);
        due("back(-1)", x.back(-1), NONE);
    }
}
