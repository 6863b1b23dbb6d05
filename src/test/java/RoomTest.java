import java.lang.management.ManagementFactory;
import java.lang.reflect.Field;

/**
 * All calls of a run live in one room: what is made is made in the constructor. Also the dearest calls
 * come to their end, and any numbers do for any call.
 */
public final class RoomTest {
    private static final int[] NUMBERS = {Integer.MIN_VALUE, Integer.MIN_VALUE + 1, -65536, -256, -2, -1, 0, 1, 2,
        7, 8, 12, 13, 15, 16, 20, 21, 60, 61, 63, 64, 255, 256, 6000, 65536, Integer.MAX_VALUE - 1,
        Integer.MAX_VALUE};

    public static void main(String[] args) {
        theDearestTickMakesNothing();
        theLongestPlayIsTaken();
        anyNumbersDo();
        countsMayWrap();
        Check.finish();
    }

    /** Eight SLOTS with 300 ORDERS, twelve ACTORS with eight STEPS along sixteen BOXES. */
    private static StageHouse busyHouse() {
        int[] boxes = new int[80];
        for (int i = 0; i < 16; i++) {
            int[] box = {16 * i, 0, 16 * i + 15, 255, 0};
            System.arraycopy(box, 0, boxes, 5 * i, 5);
        }
        Tale tale = new Tale().room(1, boxes);
        int[] walks = new int[0];
        for (int a = 1; a <= 12; a++) {
            tale.actor(a, 1, 0, 0, 8);
            walks = Tale.join(walks, Tale.order(32, Tale.global(9), Tale.word(256)), Tale.order(14, Tale.word(a),
                Tale.global(9), Tale.word(255)), Tale.order(20, Tale.global(9)), Tale.order(21, Tale.word(1),
                Tale.word(1), Tale.word(1)));
        }
        StageHouse house = tale.script(1, walks, Tale.order(2, Tale.jump(0))).object(1, 0, 0, 0, 0, 1, 1).house();
        for (int i = 0; i < 8; i++) {
            house.start(1);
        }
        return house;
    }

    private static long made() {
        com.sun.management.ThreadMXBean threads =
            (com.sun.management.ThreadMXBean) ManagementFactory.getThreadMXBean();
        return threads.getThreadAllocatedBytes(Thread.currentThread().getId());
    }

    private static void theDearestTickMakesNothing() {
        StageHouse house = busyHouse();
        callAll(house, 1);
        long before = made();
        int done = callAll(house, 200);
        long after = made();
        Check.due("ORDERS", done, 480000);
        // The machine's own book-keeping may fall into the time between; an object a TICK would show.
        Check.due("bytes made: " + (after - before), after - before < 3000, true);
        before = made();
        StageHouse other = new StageHouse();
        after = made();
        Check.due("bytes of a new house: " + (after - before), after - before < 40000, true);
        Check.due("a new house", other.count(6), 1);
    }

    private static int callAll(StageHouse house, int ticks) {
        long before = made();
        int done = house.tick(ticks);
        house.keep();
        house.back();
        house.feed(1, 2, 3, 4, 5);
        house.end(0);
        house.goal(1, 255, 255);
        house.way(1, 0, 15);
        house.say(1, 1, 1);
        return made() >= before ? done : -1;
    }

    private static void theLongestPlayIsTaken() {
        StageHouse house = new StageHouse();
        int[] code = new int[5992];
        java.util.Arrays.fill(code, 1);
        Tale.put(house, new Tale().script(60, code).bytes());
        Check.due("bytes", house.count(11), 6000);
        Check.due("play()", house.play(), 1);
        house.start(60);
        for (int i = 0; i < 29; i++) {
            house.tick(200);
        }
        Check.due("PLACE", house.slot(0, 1), 5800);
        Check.due("the last BREAKs", house.tick(192), 192);
        Check.due("PLACE", house.slot(0, 1), 5992);
        Check.due("the end", house.tick(1), 0);
        Check.due("CRASHES", house.count(4), 1);
    }

    private static void anyNumbersDo() {
        for (int state = 0; state < 2; state++) {
            StageHouse house = state == 0 ? new StageHouse() : busyHouse();
            int answers = 0;
            for (int a : NUMBERS) {
                answers += one(house, a);
                for (int b : NUMBERS) {
                    answers += two(house, a, b);
                    for (int c : NUMBERS) {
                        house.box(a, b, c);
                        house.neighbours(a, b, c);
                        house.way(a, b, c);
                        house.goal(a, b, c);
                        house.walk(a, b, c);
                        house.say(a, b, c);
                    }
                }
            }
            Check.due("all others threw what they may throw", answers >= 0, true);
            Check.due("tick(1)", house.tick(1) >= 0, true);
        }
    }

    private static int one(StageHouse house, int a) {
        house.end(a);
        house.fault(a);
        house.start(a);
        house.count(a);
        return may(() -> house.variable(a)) + may(() -> house.note(a));
    }

    private static int two(StageHouse house, int a, int b) {
        house.slot(a, b);
        house.verb(a, b);
        return may(() -> house.set(a, b)) + may(() -> house.actor(a, b)) + may(() -> house.object(a, b))
            + may(() -> house.sentence(a, b));
    }

    /** Another exception than the document's ends the test. */
    private static int may(Check.Call call) {
        try {
            call.answer();
            return 1;
        } catch (java.util.NoSuchElementException e) {
            return 0;
        }
    }

    /**
     * Far behind the 512th call all answers are free, but no call may throw by itself; the counts are set
     * from outside, for two thousand million NOTES would take too long.
     */
    private static void countsMayWrap() {
        StageHouse house = busyHouse();
        for (String count : new String[] {"ticks", "noted", "crashes", "spilled"}) {
            setCount(house, count, Integer.MAX_VALUE);
        }
        Check.due("ORDERS, over the greatest count", house.tick(200), 480000);
        Check.due("NOTES, over the greatest count", house.count(3) < 0, true);
        Check.dueNoSuchElement("note(0)", () -> house.note(0));
        setCount(house, "noted", -1);
        Check.due("ORDERS, over 0", house.tick(1), 2400);
        Check.due("NOTES, over 0", house.count(3) > 0, true);
        Check.due("note(63), a number that LUCK left by 256", house.note(63) >= 0 && house.note(63) < 256, true);
        Check.dueNoSuchElement("note(64)", () -> house.note(64));
    }

    private static void setCount(StageHouse house, String count, int number) {
        try {
            Field stage = StageHouse.class.getDeclaredField("stage");
            stage.setAccessible(true);
            Field field = stage.getType().getDeclaredField(count);
            field.setAccessible(true);
            field.setInt(stage.get(house), number);
        } catch (ReflectiveOperationException e) {
            throw new IllegalStateException(e);
        }
    }
}
