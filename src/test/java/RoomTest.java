import java.lang.management.ManagementFactory;

/** All calls of one run live in one room: the constructor makes the rows, the calls make nothing. */
public final class RoomTest {
    private static final int OBJECTS = 200;
    private static final long MOST_NEW = 40_000;
    private static final long MOST_CALLS = 16;
    private static final String VALLEY =
            "person 4 0;person 0 0;talk 0 0 99;talk 1 5 9;sight 9 9;due 9 9 -9;songs 1;";
    private static final String RULE = "!(c<b&o-1)|-s*p/f=2";

    private static long sum;

    public static void main(String[] args) {
        com.sun.management.ThreadMXBean threads =
                (com.sun.management.ThreadMXBean) ManagementFactory.getThreadMXBean();
        long id = Thread.currentThread().getId();
        for (int i = 0; i < 20; i++) {
            callAll(new SpokenClock());
        }
        SpokenClock[] clocks = new SpokenClock[OBJECTS];
        long before = threads.getThreadAllocatedBytes(id);
        for (int i = 0; i < OBJECTS; i++) {
            clocks[i] = new SpokenClock();
        }
        long made = (threads.getThreadAllocatedBytes(id) - before) / OBJECTS;
        long start = threads.getThreadAllocatedBytes(id);
        for (SpokenClock clock : clocks) {
            callAll(clock);
        }
        long called = (threads.getThreadAllocatedBytes(id) - start) / OBJECTS;
        System.out.println("a constructor makes " + made + " bytes, all calls after it " + called + " (" + sum + ")");
        if (made > MOST_NEW || called > MOST_CALLS) {
            System.exit(1);
        }
    }

    private static void callAll(SpokenClock x) {
        for (int i = 0; i < VALLEY.length(); i++) {
            sum += x.type(VALLEY.charAt(i), 1);
        }
        sum += x.read();
        for (int i = 0; i < RULE.length(); i++) {
            sum += x.write(RULE.charAt(i));
        }
        sum += x.fault() + x.put(0, 4) + x.person(3, 1) + x.talk(2, 0, 240) + x.due(50, 60, 9) + x.sight(0, 0);
        for (int i = 0; i < 5; i++) {
            sum += x.clock(0, 240) + x.counts(0, 3) + x.sun(0, 9) + x.letter(0, 9, 9) + x.turns(7) + x.paid(-1);
            sum += x.best(i) + x.step(i, 50) + x.minute(i) + x.stake(i, 2, 3, 4, 5) + x.silence(40, 20, 0);
            sum += x.night(60, 3, i) + x.who(0) + x.who(2) + x.sign(1) + x.limb(0, i) + x.status(0) + x.count(i);
            sum += x.digest() + x.image(0) + x.from(0) + x.put(2, i);
        }
        sum += x.clears(0) + x.wipe() + x.erase() + x.from(1) + x.status(9) + x.put(9, 9);
    }
}
