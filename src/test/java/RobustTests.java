import java.util.Random;

/** Arguments from anywhere: no call throws, and what only asks changes nothing. */
public final class RobustTests {
    private static final int[] EDGES = {Integer.MIN_VALUE, Integer.MIN_VALUE + 1, -1000000, -33, -3, -2, -1, 0, 1, 2,
        3, 4, 5, 6, 7, 8, 9, 10, 11, 15, 16, 20, 31, 32, 33, 59, 60, 61, 64, 99, 100, 101, 300, 301, 400, 401,
        65536, Integer.MAX_VALUE - 1, Integer.MAX_VALUE};
    private static final String STREET = "street 3;person 2 20;person 3 10;person 1 30;work 1 0 1;work 2 2 2;"
        + "lamp 0 30;lamp 9 12;lit 0 0 1;lit 1 1 2";
    private static final String[] RULES = {"sleep 1", "sleep others-1 if cost<worth*2;sleep left/slept", "sleep owed%2",
        "sleep 99999*99999*99999*99999*99999/[1"};

    public static void main(String[] args) {
        int wrong = 0;
        for (int seed = 0; seed < 300; seed++) {
            wrong += run(new Random(seed));
        }
        System.out.println(wrong == 0 ? "RobustTests: all answers are as due" : "RobustTests: " + wrong + " wrong");
        if (wrong != 0) {
            System.exit(1);
        }
    }

    private static int run(Random random) {
        SleepersPay x = new SleepersPay();
        int wrong = 0;
        if (random.nextInt(4) > 0) {
            Telling.street(x, STREET);
        }
        for (int i = 0; i < 480; i++) {
            int which = random.nextInt(30);
            int[] a = new int[5];
            for (int j = 0; j < 5; j++) {
                a[j] = random.nextInt(3) == 0 ? EDGES[random.nextInt(EDGES.length)] : random.nextInt(6);
            }
            long before = image(x);
            if (which < 13) {
                change(x, which, a, random);
            } else {
                ask(x, which, a);
                if (image(x) != before) {
                    System.out.println("call " + which + " changed what it asked");
                    wrong++;
                }
            }
        }
        return wrong;
    }

    private static long image(SleepersPay x) {
        long sum = 0;
        for (int what = 0; what < 16; what++) {
            sum = sum * 31 + x.count(what);
        }
        for (int p = -1; p < 5; p++) {
            sum = sum * 31 + x.owed(p, 0);
            sum = sum * 31 + x.owed(p, 1);
            sum = sum * 31 + x.person(p, 3);
            sum = sum * 31 + x.person(p, 4);
            sum = sum * 31 + x.slept(p);
        }
        return sum;
    }

    private static void change(SleepersPay x, int which, int[] a, Random random) {
        switch (which) {
            case 0 -> x.feed(a[0], a[1], a[2], a[3], a[4]);
            case 1 -> x.end(a[0]);
            case 2 -> {
                if (random.nextInt(5) == 0) {
                    Telling.street(x, STREET);
                } else {
                    x.street();
                }
            }
            case 3 -> {
                if (random.nextInt(3) == 0) {
                    Telling.rule(x, RULES[random.nextInt(RULES.length)]);
                } else {
                    x.rule();
                }
            }
            case 4 -> x.force(a[0]);
            case 5, 6 -> x.hour();
            case 7 -> x.sleep(a[0], a[1] > 2);
            case 8 -> x.light(a[0], a[1] > 2);
            case 9 -> x.undo();
            case 10 -> x.fact(a[0], a[1], a[2], a[3]);
            case 11 -> x.seed(a[0]);
            default -> {
                if (a[1] > 2) {
                    x.back(a[0]);
                } else {
                    x.image(a[0]);
                }
            }
        }
    }

    private static void ask(SleepersPay x, int which, int[] a) {
        switch (which) {
            case 13 -> x.person(a[0], a[1]);
            case 14 -> x.lamp(a[0], a[1]);
            case 15 -> x.owed(a[0], a[1]);
            case 16 -> x.ahead(a[0], a[1], a[2]);
            case 17 -> x.cheap(a[0], a[1], a[2]);
            case 18 -> x.rest(a[0]);
            case 19 -> x.dark(a[0]);
            case 20 -> x.guild(a[0], a[1], a[2]);
            case 21 -> x.slept(a[0]);
            case 22 -> x.ask(a[0]);
            case 23 -> x.nights(a[0], a[1], a[2], a[3]);
            case 24 -> x.turned(a[0], a[1], a[2]);
            case 25 -> x.spite(a[0], a[1], a[2], a[3]);
            case 26 -> x.lives(a[0], a[1], a[2], a[3]);
            default -> x.count(a[0]);
        }
    }
}
