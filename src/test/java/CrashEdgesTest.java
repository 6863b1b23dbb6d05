import java.util.Arrays;

/** What CRASHES, case by case (Term 2): the SLOT is free, one CRASH more, and nothing else is done. */
public final class CrashEdgesTest extends Edges {
    /** Every ORDER that has something behind it, told so that it can be done. */
    private static final int[][] WHOLE = {o(2, j(0)), o(3, g(9), w(1)), o(4, l(0), w(1)), o(5, g(9), g(1)),
        o(6, g(9), l(1)), o(7, g(9), w(1)), o(8, w(1), g(9), j(0)), o(9, l(1), w(1), j(0)), words(10, 5),
        words(11, 2), words(12, 2), words(13, 1, 1, 1, 1), words(14, 1, 9, 9), words(15, 1), words(16, 1, 1),
        words(17, 1, 1), words(18, 1, 12), words(19, 1, 0, 1), words(20, 5), words(21, 1, 1, 1), words(22, 1),
        o(23, g(9), w(1)), o(24, g(9), w(1)), o(25, g(9), w(1)), o(26, g(9), w(12)), o(27, g(9), w(1)),
        o(28, g(9), w(1)), o(29, g(9), w(1)), o(30, g(9), w(1)), o(31, g(9), w(1), w(1)), o(32, g(9), w(9)),
        words(33, 2)};
    private static final int[] NOWHERE = {LEAST, -256, -1, 256, 257, 65536, 65536 + 5, MOST};

    public static void main(String[] args) {
        wholeOrdersAreDone();
        noByteWhereOneIsWanted();
        noByteForTheOrder();
        anotherOrder();
        noSuchActor();
        ownerNoneMayBe();
        noSuchObject();
        noSuchBox();
        noneIsAskedForAScript();
        pointsBeyond();
        roomsBeyond();
        speedsBeyond();
        statesBeyond();
        allIsReadFirst();
        onlyThatSlot();
        Check.finish();
    }

    /**
     * ROOM 1 has two BOXES, ROOM 2 none, ROOM 3 sixteen; ACTOR 1 walks; VARIABLES 60 to 63 are numbers for
     * SCRIPTS to take. What stands behind SCRIPT 1's CODE would do as a VALUE, a TARGET, or an ORDER.
     */
    private static StageHouse house(int[] numbers, int[]... code) {
        StageHouse house = new Tale().room(1, 0, 0, 9, 9, 0, 20, 0, 29, 9, 1).room(2)
            .room(3, times(16, new int[] {0, 0, 1, 1, 0})).actor(1, 1, 5, 6, 3).actor(12, 2, 255, 254, 0)
            .object(1, 1, 2, 9, 7).object(60, 2, 0, 0, 255).script(2, loop()).script(1, code)
            .script(60, times(30, BREAK)).house();
        house.walk(1, 9, 9);
        for (int i = 0; i < numbers.length; i++) {
            house.set(60 + i, numbers[i]);
        }
        return house;
    }

    private static void crashes(String told, int[] numbers, int[]... code) {
        StageHouse house = house(numbers, code);
        StageHouse other = house(numbers, code);
        house.start(1);
        due(told + ": ORDERS done", house.tick(1), 0);
        due(told + ": CRASHES", house.count(4), 1);
        isFree(told, house, 0);
        other.tick(1);
        same(told, look(house), look(other));
        house.start(2);
        other.start(2);
        due(told + ": others run on", house.tick(2), other.tick(2));
        due(told + ": CRASHES then", house.count(4), 1);
        due(told + ": running then", house.count(1), 1);
    }

    private static void isDone(String told, int[] numbers, int[]... code) {
        StageHouse house = house(numbers, Tale.join(code), BREAK);
        house.start(1);
        due(told + " is done", house.tick(1) > 0, true);
        due(told + ": CRASHES", house.count(4), 0);
    }

    /** So that what CRASHES below does so for the one thing that is changed. */
    private static void wholeOrdersAreDone() {
        says("A SLOT CRASHES");
        for (int[] order : WHOLE) {
            isDone("ORDER " + order[0], new int[0], order);
        }
    }

    private static void noByteWhereOneIsWanted() {
        says("no byte where one is wanted");
        for (int[] order : WHOLE) {
            for (int length = 1; length < order.length; length++) {
                crashes("ORDER " + order[0] + ", " + length + " bytes of it", new int[0], Arrays.copyOf(order, length));
            }
        }
    }

    private static void noByteForTheOrder() {
        says("also for the ORDER itself");
        StageHouse house = house(new int[0], BREAK);
        house.start(1);
        due("a BREAK as the last byte", house.tick(1), 1);
        due("PLACE behind the CODE", house.slot(0, 1), 1);
        due("CRASHES", house.count(4), 0);
        due("no ORDER behind it", house.tick(1), 0);
        due("CRASHES", house.count(4), 1);
        isFree("behind the CODE", house, 0);
        house = house(new int[0], note(1));
        house.start(1);
        due("the end in one TURN", house.tick(1), 1);
        due("CRASHES", house.count(4), 1);
        due("what was done before stays", house.note(0), 1);
    }

    private static void anotherOrder() {
        says("another ORDER");
        for (int order = 34; order <= 255; order++) {
            crashes("ORDER " + order, new int[0], Tale.raw(order), times(12, END));
        }
    }

    private static void noSuchActor() {
        says("no such ACTOR");
        int[] none = {LEAST, -1, 0, 2, 11, 13, 14, 256 + 1, 65536 + 1, MOST};
        for (int a : none) {
            int[] numbers = {a};
            crashes("13 of ACTOR " + a, numbers, o(13, g(60), w(1), w(1), w(1)));
            crashes("14 of ACTOR " + a, numbers, o(14, g(60), w(1), w(1)));
            crashes("15 of ACTOR " + a, numbers, o(15, g(60)), BREAK);
            crashes("16 of ACTOR " + a, numbers, o(16, g(60), w(1)));
            for (int order = 23; order <= 27; order++) {
                crashes(order + " of ACTOR " + a, numbers, o(order, g(9), g(60)));
            }
            crashes("31 of ACTOR " + a, numbers, o(31, g(9), g(60), w(1)));
            if (a != 0) {
                crashes("18 to ACTOR " + a, numbers, o(18, w(1), g(60)));
            }
        }
    }

    private static void ownerNoneMayBe() {
        says("(of 18 a 0 may be)");
        isDone("18 to 0", new int[0], words(18, 1, 12), words(18, 1, 0));
        crashes("18 of no such OBJECT to 0", new int[0], words(18, 2, 0));
    }

    private static void noSuchObject() {
        says("no such ACTOR (of 18 a 0 may be), OBJECT, BOX");
        int[] none = {LEAST, -1, 0, 2, 59, 61, 256 + 1, 65536 + 1, MOST};
        for (int thing : none) {
            int[] numbers = {thing};
            crashes("17 of OBJECT " + thing, numbers, o(17, g(60), w(1)));
            crashes("18 of OBJECT " + thing, numbers, o(18, g(60), w(1)));
            crashes("28 of OBJECT " + thing, numbers, o(28, g(9), g(60)));
            crashes("29 of OBJECT " + thing, numbers, o(29, g(9), g(60)));
            crashes("31 of OBJECT " + thing, numbers, o(31, g(9), w(1), g(60)));
        }
    }

    private static void noSuchBox() {
        says("OBJECT, BOX");
        int[][] none = {{1, 2}, {1, -1}, {1, 16}, {1, 32}, {1, 256}, {1, LEAST}, {1, MOST}, {2, 0}, {2, -1}, {2, 16},
            {3, 16}, {3, -1}, {3, 32}, {4, 0}, {0, 0}, {0, 16}, {20, 0}, {21, 0}, {21, -320}, {-1, 0}, {-1, 32},
            {LEAST, 0}, {MOST, 0}, {256 + 1, 0}, {65536 + 1, 0}};
        for (int[] asked : none) {
            for (int v = -1; v <= 1; v++) {
                crashes("19 of ROOM " + asked[0] + ", BOX " + asked[1], asked, o(19, g(60), g(61), w(v)));
            }
        }
        isDone("19 of the 16th BOX", new int[0], words(19, 3, 15, 1));
    }

    private static void noneIsAskedForAScript() {
        says("(none is asked for a SCRIPT)");
        for (int s : new int[] {LEAST, -1, 0, 3, 59, 61, 256 + 2, MOST}) {
            int[] numbers = {s};
            isDone("11 of SCRIPT " + s, numbers, o(11, g(60)));
            isDone("12 of SCRIPT " + s, numbers, o(12, g(60)));
            isDone("30 of SCRIPT " + s, numbers, o(30, g(9), g(60)));
            isDone("33 of SCRIPT " + s, numbers, o(33, g(60)));
        }
    }

    private static void pointsBeyond() {
        says("x, y not 0 .. 255");
        for (int n : NOWHERE) {
            int[] numbers = {n};
            crashes("13 x " + n, numbers, o(13, w(1), w(1), g(60), w(1)));
            crashes("13 y " + n, numbers, o(13, w(1), w(1), w(1), g(60)));
            crashes("14 x " + n, numbers, o(14, w(1), g(60), w(1)));
            crashes("14 y " + n, numbers, o(14, w(1), w(1), g(60)));
        }
        for (int n : new int[] {0, 255}) {
            isDone("13 at " + n, new int[0], words(13, 1, 1, n, 255 - n));
            isDone("14 to " + n, new int[0], words(14, 1, n, 255 - n));
        }
    }

    private static void roomsBeyond() {
        says("ROOM not 0 .. 20");
        for (int r : new int[] {LEAST, -1, 21, 255, 256, 256 + 1, 65536 + 1, MOST}) {
            crashes("13 in ROOM " + r, new int[] {r}, o(13, w(1), g(60), w(1), w(1)));
        }
        for (int r = 0; r <= 20; r++) {
            isDone("13 in ROOM " + r, new int[0], words(13, 1, r, 1, 1));
        }
    }

    private static void speedsBeyond() {
        says("SPEED not 0 .. 8");
        for (int v : new int[] {LEAST, -1, 9, 255, 256, 65536, MOST}) {
            crashes("SPEED " + v, new int[] {v}, o(16, w(1), g(60)));
        }
        for (int v = 0; v <= 8; v++) {
            isDone("SPEED " + v, new int[0], words(16, 1, v));
        }
    }

    private static void statesBeyond() {
        says("STATE not 0 .. 255");
        for (int v : NOWHERE) {
            crashes("STATE " + v, new int[] {v}, o(17, w(1), g(60)));
        }
        isDone("STATE 0", new int[0], words(17, 1, 0));
        isDone("STATE 255", new int[0], words(17, 1, 255));
    }

    private static void allIsReadFirst() {
        says("(All VALUES, TARGETS, JUMPS are read first, in order; then what they tell is asked.)");
        crashes("31 of no ACTOR, no byte for the OBJECT", new int[0], o(31, g(9), w(2)));
        crashes("13 of no ACTOR, a wrong byte behind", new int[0], words(13, 2, 1, 1), Tale.raw(3, 0, 0), BREAK);
        crashes("8 of equal ones, no byte for the JUMP", new int[0], words(8, 1, 1), Tale.raw(0));
        crashes("32 without its VALUE: no LUCK is drawn", new int[0], Tale.raw(32, 1, 9, 0, 0));
        crashes("21 without its last byte: no SENTENCE", new int[0], words(21, 1, 1), Tale.raw(0, 0));
        crashes("3 with a wrong VALUE behind", new int[0], Tale.raw(3, 1, 9, 1, 64), BREAK);
        StageHouse house = house(new int[0], o(3, g(9), w(5)), o(5, g(9), g(9)), o(20, g(9)), BREAK);
        house.start(1);
        house.tick(1);
        due("t and v may be one", house.note(0), 0);
    }

    private static void onlyThatSlot() {
        says("A SLOT CRASHES (it is free then, one CRASH more, nothing else of the ORDER is done)");
        int[][] ways = {CRASH, Tale.raw(20, 3), Tale.raw(20, 1, 64), Tale.raw(3, 0, 0), o(2, j(99)), words(7, 0), Tale.raw(20)};
        for (int[] way : ways) {
            onlyThatSlot(way);
        }
    }

    private static void onlyThatSlot(int[] way) {
        StageHouse house = house(new int[0], o(3, l(2), w(5)), words(10, 1), way);
        for (int i = 0; i < 3; i++) {
            house.start(2);
            house.start(1);
        }
        due("all have their TURNS", house.tick(1), 9);
        due("CRASHES", house.count(4), 0);
        due("three CRASH", house.tick(1), 6);
        due("CRASHES", house.count(4), 3);
        due("running", house.count(1), 3);
        for (int i = 0; i < 6; i++) {
            due("slot(" + i + ", 0)", house.slot(i, 0), i % 2 == 0 ? 2 : 0);
        }
        isFree("one that CRASHED", house, 1);
        due("the lowest free SLOT", house.start(2), 1);
        due("SPILLED", house.count(5), 0);
    }
}
