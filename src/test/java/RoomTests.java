import com.sun.management.ThreadMXBean;
import java.lang.management.ManagementFactory;

/** What an object takes of the room that all calls of a run live in: some 600,000 objects, 7.3 million elements. */
public final class RoomTests {
    private static final int CALLS = 512;
    /** Asking the machine takes some itself. */
    private static final int OF_THE_MACHINE = 512;
    private static final String STREET = "street 10" + ";person 5 30".repeat(5) + ";work 0 0 0".repeat(8)
        + ";lamp 9 60".repeat(5) + ";lit 0 0 9".repeat(8);
    private static final ThreadMXBean BEAN = (ThreadMXBean) ManagementFactory.getThreadMXBean();
    private static final int[] NUMBERS = numbers();
    private static int wrong = 0;

    public static void main(String[] args) {
        SleepersPay x = new SleepersPay();
        rules(x);
        atMost("a new object", 32 * 1024, SleepersPay::new);
        atMost("a new object with six RULES, and telling these", 96 * 1024, () -> rules(new SleepersPay()));
        atMost("512 other calls", 0, () -> play(x));
        System.out.println(wrong == 0 ? "RoomTests: all is as due" : "RoomTests: " + wrong + " wrong");
        if (wrong != 0) {
            System.exit(1);
        }
    }

    private static void atMost(String what, long most, Runnable calls) {
        long id = Thread.currentThread().getId();
        calls.run();
        long before = BEAN.getThreadAllocatedBytes(id);
        calls.run();
        long took = BEAN.getThreadAllocatedBytes(id) - before;
        if (took > most + OF_THE_MACHINE) {
            wrong++;
            System.out.println(what + " took " + took + " bytes, not " + most + " at most");
        }
    }

    private static void rules(SleepersPay x) {
        String rule = "sleep 1" + "+1".repeat(20) + " if " + "not[".repeat(5) + "1=1" + "]".repeat(5);
        for (int i = 0; i < 6; i++) {
            Telling.rule(x, rule + " ".repeat(400 - rule.length()));
        }
        x.force(0);
    }

    /** As Telling does, but makes nothing itself. */
    private static void tell(SleepersPay x) {
        x.end(0);
        for (int i = 0; i + 5 <= NUMBERS.length; i += 5) {
            x.feed(NUMBERS[i], NUMBERS[i + 1], NUMBERS[i + 2], NUMBERS[i + 3], NUMBERS[i + 4]);
        }
        x.end(STREET.length());
        if (x.street() != 5) {
            wrong++;
        }
    }

    private static int[] numbers() {
        int[] numbers = new int[100];
        for (int i = 0; i < STREET.length(); i++) {
            numbers[i / 4] |= STREET.charAt(i) << 24 - i % 4 * 8;
        }
        return numbers;
    }

    private static void play(SleepersPay x) {
        tell(x);
        for (int i = 0; i < CALLS; i++) {
            call(x, i);
        }
    }

    private static void call(SleepersPay x, int i) {
        switch (i % 28) {
            case 0 -> x.feed(i, i, i, i, i);
            case 1 -> x.end(0);
            case 2 -> x.street();
            case 3, 4 -> x.hour();
            case 5 -> x.sleep(4, i % 56 == 5);
            case 6 -> x.light(4, i % 56 == 6);
            case 7 -> x.undo();
            case 8 -> x.owed(0, 0);
            case 9 -> x.ahead(4, 100, 2);
            case 10 -> x.cheap(4, 5, 1);
            case 11 -> x.rest(0);
            case 12 -> x.dark(1);
            case 13 -> x.guild(31, 5, 1);
            case 14 -> x.fact(2, 1, 0, 0);
            case 15 -> x.slept(3);
            case 16 -> x.ask(1);
            case 17 -> x.nights(4, 8, 3, 7);
            case 18 -> x.turned(4, 60, 0);
            case 19 -> x.spite(0, 4, 60, 0);
            case 20 -> x.lives(10, 60, 50, 1);
            case 21 -> x.image(i % 4);
            case 22 -> x.back(i % 4);
            case 23 -> x.person(4, i % 6);
            case 24 -> x.lamp(4, i % 3);
            case 25 -> x.force(i % 7 - 1);
            case 26 -> x.seed(i);
            default -> x.count(i % 16);
        }
    }
}
