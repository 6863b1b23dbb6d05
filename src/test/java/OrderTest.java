/** The ORDERS 0 to 33, each with what it does and where it CRASHES (promise 6, and Term 2). */
public final class OrderTest {
    private static final int[] NEXT = Tale.order(20, Tale.word(77));

    public static void main(String[] args) {
        calculates();
        readsValues();
        jumps();
        movesActors();
        changesObjects();
        shutsBoxes();
        asksActors();
        asksObjects();
        measuresDistance();
        drawsLuck();
        startsAndStops();
        chains();
        crashesOnWhatCannotBeRead();
        crashesOnWhatIsNotThere();
        Check.finish();
    }

    private static int[] w(int value) {
        return Tale.word(value);
    }

    private static int[] g(int variable) {
        return Tale.global(variable);
    }

    private static int[] l(int number) {
        return Tale.local(number);
    }

    private static int[] o(int kind, int[]... behind) {
        return Tale.order(kind, behind);
    }

    /** SCRIPT 1 is started; ROOM 1 has two BOXES, the second SHUT; ROOM 2 has none. */
    private static StageHouse house(int[]... code) {
        StageHouse house = new Tale().room(1, 0, 0, 9, 9, 0, 20, 0, 29, 9, 1).room(2)
            .actor(1, 1, 5, 6, 3).actor(12, 2, 255, 254, 0).object(1, 1, 2, 9, 7).object(60, 2, 0, 0, 255)
            .script(1, code).script(2, NEXT, Tale.raw(1)).script(60, Tale.raw(1, 1, 1)).house();
        house.start(1);
        return house;
    }

    /** After one TICK: so many ORDERS, and VARIABLE 9. */
    private static void sets(String told, int want, int orders, int[]... code) {
        StageHouse house = house(code);
        Check.due(told + ": tick(1)", house.tick(1), orders);
        Check.due(told + ": VARIABLE 9", house.variable(9), want);
        Check.due(told + ": CRASHES", house.count(4), 0);
    }

    private static void calculates() {
        sets("set", -32768, 2, o(3, g(9), w(-32768)), Tale.raw(1));
        sets("set", 32767, 2, o(3, g(9), w(32767)), Tale.raw(1));
        sets("add", 5, 3, o(3, g(9), w(7)), o(4, g(9), w(-2)), Tale.raw(1));
        sets("less", 9, 3, o(3, g(9), w(7)), o(5, g(9), w(-2)), Tale.raw(1));
        sets("times", -14, 3, o(3, g(9), w(7)), o(6, g(9), w(-2)), Tale.raw(1));
        sets("by, cut", -3, 3, o(3, g(9), w(7)), o(7, g(9), w(-2)), Tale.raw(1));
        sets("by, cut", -3, 3, o(3, g(9), w(-7)), o(7, g(9), w(2)), Tale.raw(1));
        sets("on itself", 49, 3, o(3, g(9), w(7)), o(6, g(9), g(9)), Tale.raw(1));
        int[][] least = {o(3, g(9), w(-32768)), o(6, g(9), w(16384)), o(6, g(9), w(4))};
        sets("times as ints go", Integer.MIN_VALUE, 4, least[0], least[1], least[2], Tale.raw(1));
        sets("least by -1", Integer.MIN_VALUE, 5, least[0], least[1], least[2], o(7, g(9), w(-1)),
            Tale.raw(1));
        sets("less as ints go", Integer.MAX_VALUE, 5, least[0], least[1], least[2], o(5, g(9), w(1)),
            Tale.raw(1));
        sets("add as ints go", Integer.MAX_VALUE, 5, least[0], least[1], least[2], o(4, g(9), w(-1)),
            Tale.raw(1));
    }

    private static void readsValues() {
        sets("a LOCAL", 41, 3, o(3, l(3), w(41)), o(3, g(9), l(3)), Tale.raw(1));
        sets("a LOCAL that was not set", 0, 3, o(3, l(3), w(41)), o(3, g(9), l(0)), Tale.raw(1));
        sets("VARIABLE 0 is the TICK", 1, 2, o(3, g(9), g(0)), Tale.raw(1));
        sets("VARIABLE 63", 8, 3, o(3, g(63), w(8)), o(3, g(9), g(63)), Tale.raw(1));
        StageHouse house = house(o(3, l(0), w(1)), o(3, l(1), w(2)), o(3, l(2), w(3)), o(3, l(3), w(-4)),
            Tale.raw(1));
        house.tick(1);
        Check.due("slot(0, 6)", house.slot(0, 6), 1);
        Check.due("slot(0, 7)", house.slot(0, 7), 2);
        Check.due("slot(0, 8)", house.slot(0, 8), 3);
        Check.due("slot(0, 9)", house.slot(0, 9), -4);
    }

    private static void jumps() {
        int[] one = o(3, g(9), w(1));
        sets("2 goes", 0, 2, o(2, Tale.jump(9)), one, Tale.raw(1));
        sets("8 goes", 0, 2, o(8, w(5), w(5), Tale.jump(15)), one, Tale.raw(1));
        sets("8 does not", 1, 3, o(8, w(5), w(6), Tale.jump(15)), one, Tale.raw(1));
        sets("9 goes", 0, 2, o(9, w(-5), w(5), Tale.jump(15)), one, Tale.raw(1));
        sets("9 of equal ones", 1, 3, o(9, w(5), w(5), Tale.jump(15)), one, Tale.raw(1));
        sets("9 of a higher one", 1, 3, o(9, w(6), w(5), Tale.jump(15)), one, Tale.raw(1));
        StageHouse house = house(o(4, g(9), w(1)), o(9, g(9), w(5), Tale.jump(0)), Tale.raw(0));
        Check.due("a loop's ORDERS", house.tick(1), 11);
        Check.due("a loop's VARIABLE", house.variable(9), 5);
        crashes("a JUMP to the length", 0, o(2, Tale.jump(3)));
        crashes("a JUMP of 65535", 0, o(2, Tale.jump(65535)));
        crashes("a JUMP beyond that is not gone", 0, o(8, w(1), w(2), Tale.jump(10)));
        crashes("a JUMP beyond that is not gone", 0, o(9, w(2), w(1), Tale.jump(99)), Tale.raw(1));
        int[] far = new int[300];
        far[299] = 1;
        house = house(o(2, Tale.jump(302)), far);
        Check.due("a far JUMP", house.tick(1), 2);
        Check.due("its PLACE", house.slot(0, 1), 303);
    }

    private static void movesActors() {
        StageHouse house = house(o(14, w(1), w(9), w(9)), Tale.raw(1), o(13, w(1), w(20), w(255), w(0)),
            o(16, w(1), w(8)), Tale.raw(1), o(13, w(1), w(0), w(0), w(255)), o(16, w(12), w(0)), Tale.raw(1));
        house.tick(1);
        Check.due("it walks", house.actor(1, 4), 1);
        Check.due("so far", house.actor(1, 1), 8);
        house.tick(1);
        Check.due("13: ROOM", house.actor(1, 0), 20);
        Check.due("13: x", house.actor(1, 1), 255);
        Check.due("13: y", house.actor(1, 2), 0);
        Check.due("13: it does not walk", house.actor(1, 4), 0);
        Check.due("13: where to", house.actor(1, 5), -1);
        Check.due("16: SPEED", house.actor(1, 3), 8);
        house.tick(1);
        Check.due("13: ROOM 0", house.actor(1, 0), 0);
        Check.due("13: y 255", house.actor(1, 2), 255);
        Check.due("CRASHES", house.count(4), 0);
        crashes("13 actor", 0, o(13, w(2), w(1), w(1), w(1)));
        crashes("13 actor 0", 0, o(13, w(0), w(1), w(1), w(1)));
        crashes("13 actor 13", 0, o(13, w(13), w(1), w(1), w(1)));
        crashes("13 room", 0, o(13, w(1), w(21), w(1), w(1)));
        crashes("13 room", 0, o(13, w(1), w(-1), w(1), w(1)));
        crashes("13 x", 0, o(13, w(1), w(1), w(256), w(1)));
        crashes("13 x", 0, o(13, w(1), w(1), w(-1), w(1)));
        crashes("13 y", 0, o(13, w(1), w(1), w(1), w(256)));
        crashes("13 y", 0, o(13, w(1), w(1), w(1), w(-1)));
        crashes("14 actor", 0, o(14, w(2), w(1), w(1)));
        crashes("14 x", 0, o(14, w(1), w(256), w(1)));
        crashes("14 x", 0, o(14, w(1), w(-1), w(1)));
        crashes("14 y", 0, o(14, w(1), w(1), w(256)));
        crashes("14 y", 0, o(14, w(1), w(1), w(-1)));
        crashes("15 actor", 0, o(15, w(2)));
        crashes("15 actor 0", 0, o(15, w(0)));
        crashes("16 actor", 0, o(16, w(2), w(1)));
        crashes("16 speed", 0, o(16, w(1), w(9)));
        crashes("16 speed", 0, o(16, w(1), w(-1)));
    }

    private static void changesObjects() {
        StageHouse house = house(o(17, w(1), w(255)), o(17, w(60), w(0)), o(18, w(1), w(12)), Tale.raw(1),
            o(18, w(1), w(0)), Tale.raw(1));
        Check.due("ORDERS", house.tick(1), 4);
        Check.due("17: STATE", house.object(1, 3), 255);
        Check.due("17: STATE of 60", house.object(60, 3), 0);
        Check.due("18: OWNER", house.object(1, 4), 12);
        Check.due("18: OWNER of another", house.object(60, 4), 0);
        house.tick(1);
        Check.due("18: OWNER none", house.object(1, 4), 0);
        crashes("17 object", 0, o(17, w(2), w(1)));
        crashes("17 object 0", 0, o(17, w(0), w(1)));
        crashes("17 object 61", 0, o(17, w(61), w(1)));
        crashes("17 state", 0, o(17, w(1), w(256)));
        crashes("17 state", 0, o(17, w(1), w(-1)));
        crashes("18 object", 0, o(18, w(2), w(1)));
        crashes("18 object 0", 0, o(18, w(0), w(0)));
        crashes("18 owner", 0, o(18, w(1), w(2)));
        crashes("18 owner", 0, o(18, w(1), w(-1)));
        crashes("18 owner", 0, o(18, w(1), w(13)));
    }

    private static void shutsBoxes() {
        StageHouse house = house(o(19, w(1), w(0), w(-5)), o(19, w(1), w(1), w(0)), Tale.raw(1),
            o(19, w(1), w(0), w(0)), o(19, w(1), w(1), w(1)), Tale.raw(1));
        Check.due("BOX 0 at first", house.box(1, 0, 4), 0);
        Check.due("BOX 1 at first", house.box(1, 1, 4), 1);
        house.tick(1);
        Check.due("BOX 0 SHUT", house.box(1, 0, 4), 1);
        Check.due("BOX 1 open", house.box(1, 1, 4), 0);
        house.tick(1);
        Check.due("BOX 0 open", house.box(1, 0, 4), 0);
        Check.due("BOX 1 SHUT", house.box(1, 1, 4), 1);
        crashes("19 box", 0, o(19, w(1), w(2), w(1)));
        crashes("19 box", 0, o(19, w(1), w(-1), w(1)));
        crashes("19 box of a room without", 0, o(19, w(2), w(0), w(1)));
        crashes("19 room", 0, o(19, w(3), w(0), w(1)));
        crashes("19 room 0", 0, o(19, w(0), w(0), w(1)));
        crashes("19 room 21", 0, o(19, w(21), w(0), w(1)));
    }

    private static void asksActors() {
        sets("23", 5, 2, o(23, g(9), w(1)), Tale.raw(1));
        sets("24", 6, 2, o(24, g(9), w(1)), Tale.raw(1));
        sets("25", 1, 2, o(25, g(9), w(1)), Tale.raw(1));
        sets("26", 0, 2, o(26, g(9), w(1)), Tale.raw(1));
        sets("27", 0, 2, o(27, g(9), w(1)), Tale.raw(1));
        sets("23 of 12", 255, 2, o(23, g(9), w(12)), Tale.raw(1));
        sets("24 of 12", 254, 2, o(24, g(9), w(12)), Tale.raw(1));
        sets("25 of 12", 2, 2, o(25, g(9), w(12)), Tale.raw(1));
        sets("26 of 12", -1, 2, o(26, g(9), w(12)), Tale.raw(1));
        sets("26 in a SHUT BOX", -1, 3, o(13, w(1), w(1), w(25), w(5)), o(26, g(9), w(1)), Tale.raw(1));
        sets("26 in a ROOM that is not there", -1, 3, o(13, w(1), w(9), w(5), w(5)), o(26, g(9), w(1)),
            Tale.raw(1));
        sets("26 in ROOM 0", -1, 3, o(13, w(1), w(0), w(5), w(5)), o(26, g(9), w(1)), Tale.raw(1));
        sets("27 where it is", 1, 3, o(14, w(1), w(5), w(6)), o(27, g(9), w(1)), Tale.raw(1));
        for (int order = 23; order <= 27; order++) {
            crashes(order + " actor", 0, o(order, g(9), w(2)));
            crashes(order + " actor 0", 0, o(order, g(9), w(0)));
            crashes(order + " actor 13", 0, o(order, g(9), w(13)));
        }
    }

    private static void asksObjects() {
        sets("28", 7, 2, o(28, g(9), w(1)), Tale.raw(1));
        sets("28 of 60", 255, 2, o(28, g(9), w(60)), Tale.raw(1));
        sets("29", 12, 3, o(18, w(1), w(12)), o(29, g(9), w(1)), Tale.raw(1));
        sets("30", 1, 2, o(30, g(9), w(1)), Tale.raw(1));
        sets("30 of two", 2, 8, o(11, w(2)), o(11, w(2)), o(30, g(9), w(2)), Tale.raw(1));
        sets("30 of 0", 0, 3, o(3, g(9), w(3)), o(30, g(9), w(0)), Tale.raw(1));
        sets("30 of one that is not there", 0, 3, o(3, g(9), w(3)), o(30, g(9), w(-9)), Tale.raw(1));
        for (int order = 28; order <= 29; order++) {
            crashes(order + " object", 0, o(order, g(9), w(2)));
            crashes(order + " object 0", 0, o(order, g(9), w(0)));
            crashes(order + " object 61", 0, o(order, g(9), w(61)));
        }
    }

    private static void measuresDistance() {
        sets("31", 6, 2, o(31, g(9), w(1), w(1)), Tale.raw(1));
        sets("31 of two ROOMS", 999, 2, o(31, g(9), w(1), w(60)), Tale.raw(1));
        sets("31 in ROOM 2", 509, 2, o(31, g(9), w(12), w(60)), Tale.raw(1));
        crashes("31 actor", 0, o(31, g(9), w(2), w(1)));
        crashes("31 actor 0", 0, o(31, g(9), w(0), w(1)));
        crashes("31 object", 0, o(31, g(9), w(1), w(2)));
        crashes("31 object 0", 0, o(31, g(9), w(1), w(0)));
    }

    private static void drawsLuck() {
        int first = 1103515245 + 12345;
        int second = first * 1103515245 + 12345;
        sets("32", (first & 0x7fffffff) % 1000, 2, o(32, g(9), w(1000)), Tale.raw(1));
        sets("32 again", (second & 0x7fffffff) % 1000, 3, o(32, g(9), w(7)), o(32, g(9), w(1000)),
            Tale.raw(1));
        sets("32 by 0", 0, 3, o(3, g(9), w(3)), o(32, g(9), w(0)), Tale.raw(1));
        sets("32 by -1", 0, 3, o(3, g(9), w(3)), o(32, g(9), w(-1)), Tale.raw(1));
        StageHouse house = house(o(32, g(9), w(0)), o(32, g(9), w(-8)), Tale.raw(1));
        house.tick(1);
        Check.due("LUCK goes on by 0 and below", house.count(6), second);
        Check.due("LUCK is below 0 here", second < 0, true);
    }

    private static void startsAndStops() {
        StageHouse house = house(o(11, w(2)), o(11, w(60)), o(11, w(3)), o(11, w(-1)), Tale.raw(1),
            o(12, w(2)), o(12, w(0)), o(12, w(99)), Tale.raw(1), o(12, w(1)), NEXT, Tale.raw(1));
        Check.due("11: ORDERS of all", house.tick(1), 8);
        Check.due("11: SLOT 1", house.slot(1, 0), 2);
        Check.due("11: SLOT 2", house.slot(2, 0), 60);
        Check.due("11: SLOT 3", house.slot(3, 0), 0);
        Check.due("11: SPILLED", house.count(5), 0);
        Check.due("12: ORDERS of all", house.tick(1), 5);
        Check.due("12: SLOT 1", house.slot(1, 0), 0);
        Check.due("12: SLOT 2", house.slot(2, 0), 60);
        Check.due("12: SLOT 0", house.slot(0, 0), 1);
        Check.due("12 on itself", house.tick(1), 2);
        Check.due("12: SLOT 0 is free", house.slot(0, 0), 0);
        Check.due("its TURN was over", house.count(3), 1);
        Check.due("CRASHES", house.count(4), 0);
    }

    private static void chains() {
        StageHouse house = house(o(3, l(2), w(6)), o(33, w(2)), Tale.raw(99));
        Check.due("33: ORDERS", house.tick(1), 4);
        Check.due("33: SCRIPT", house.slot(0, 0), 2);
        Check.due("33: PLACE", house.slot(0, 1), 5);
        Check.due("33: LOCALS are kept", house.slot(0, 8), 6);
        Check.due("33: it ran", house.note(0), 77);
        house = house(o(33, w(3)), NEXT);
        Check.due("33 to none: ORDERS", house.tick(1), 1);
        Check.due("33 to none is END", house.count(1), 0);
        Check.due("33 to none is no CRASH", house.count(4), 0);
        house = house(o(33, w(0)), NEXT);
        Check.due("33 to 0 is END", house.tick(1), 1);
        house = house(o(33, w(1)));
        Check.due("33 to itself", house.tick(1), 300);
        Check.due("33 to itself: PLACE", house.slot(0, 1), 0);
    }

    /** The SLOT CRASHES in its first TURN, after so many ORDERS. */
    private static void crashes(String told, int orders, int[]... code) {
        StageHouse house = house(Tale.join(code));
        int state = house.object(1, 3);
        Check.due(told + ": tick(1)", house.tick(1), orders);
        Check.due(told + ": CRASHES", house.count(4), 1);
        for (int what = 0; what <= 9; what++) {
            Check.due(told + ": slot(0, " + what + ")", house.slot(0, what), 0);
        }
        Check.due(told + ": nothing NOTED", house.count(3), 0);
        Check.due(told + ": VARIABLE 9", house.variable(9), 0);
        Check.due(told + ": STATE", house.object(1, 3), state);
        Check.due(told + ": OWNER", house.object(1, 4), 0);
        Check.due(told + ": it walks", house.actor(1, 4), 0);
        Check.due(told + ": x", house.actor(1, 1), 5);
        Check.due(told + ": SPEED", house.actor(1, 3), 3);
        Check.due(told + ": LUCK", house.count(6), 1);
    }

    private static void crashesOnWhatCannotBeRead() {
        for (int order = 34; order < 256; order++) {
            crashes("order " + order, 0, Tale.raw(order, 1, 1, 1, 1, 1, 1));
        }
        crashes("the code's end", 1, o(3, g(8), w(1)));
        crashes("a value's kind", 0, Tale.raw(20, 3, 0, 1));
        crashes("a value's kind", 0, Tale.raw(20, 255, 0, 1));
        crashes("a value's variable", 0, Tale.raw(20, 1, 64));
        crashes("a value's local", 0, Tale.raw(20, 2, 4));
        crashes("a target's kind 0", 0, Tale.raw(3, 0, 9, 0, 0, 1));
        crashes("a target's kind 3", 0, Tale.raw(3, 3, 0, 0, 0, 1));
        crashes("a target's variable", 0, Tale.raw(3, 1, 64, 0, 0, 1));
        crashes("a target's local", 0, Tale.raw(3, 2, 4, 0, 0, 1));
        crashes("a second value's kind", 0, Tale.raw(21, 0, 0, 1, 3, 1, 1, 0, 0, 1));
        crashes("by 0", 0, o(7, g(9), w(0)));
        crashes("by a VARIABLE that is 0", 0, o(7, g(9), g(9)));
        int[][] whole = {o(2, Tale.jump(0)), o(3, g(9), w(1)), o(8, w(1), w(1), Tale.jump(0)),
            o(10, w(5)), o(11, w(2)), o(12, w(2)), o(13, w(1), w(1), w(1), w(1)), o(14, w(1), w(1), w(1)),
            o(15, w(1)), o(16, w(1), w(1)), o(17, w(1), w(1)), o(18, w(1), w(1)), o(19, w(1), w(0), w(1)),
            o(20, w(1)), o(21, w(1), w(1), w(1)), o(22, w(1)), o(23, g(9), w(1)), o(24, l(1), w(1)),
            o(25, g(9), w(1)), o(26, g(9), w(1)), o(27, g(9), w(1)), o(28, g(9), w(1)), o(29, g(9), w(1)),
            o(30, g(9), w(1)), o(31, g(9), w(1), g(1)), o(32, g(9), w(1)), o(33, w(2)), o(9, g(1), l(1),
            Tale.jump(0)), o(4, g(9), w(1)), o(5, g(9), w(1)), o(6, g(9), w(1)), o(7, g(9), w(1))};
        for (int[] order : whole) {
            for (int length = 1; length < order.length; length++) {
                int[] part = java.util.Arrays.copyOf(order, length);
                crashes("order " + order[0] + ", " + length + " bytes of it", 0, part);
            }
        }
    }

    private static void crashesOnWhatIsNotThere() {
        StageHouse house = house(NEXT, o(17, w(1), w(9)), o(17, w(2), w(9)), NEXT);
        Check.due("what was done before is counted", house.tick(1), 2);
        Check.due("what was done before stays", house.object(1, 3), 9);
        Check.due("NOTES", house.count(3), 1);
        Check.due("CRASHES", house.count(4), 1);
        house.start(1);
        house.tick(1);
        Check.due("CRASHES again", house.count(4), 2);
        Check.due("tick(1) with none", house.tick(1), 0);
        house = house(o(21, w(1), w(2), w(-3)), Tale.raw(0));
        house.tick(1);
        Check.due("21: VERB", house.sentence(0, 0), 1);
        Check.due("21: OBJECT", house.sentence(0, 1), 2);
        Check.due("21: other", house.sentence(0, 2), -3);
    }
}
