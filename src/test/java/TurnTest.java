/** Promises 6 (tick), 7 (start) and 12 (slot): SLOTS and their TURNS. */
public final class TurnTest {
    public static void main(String[] args) {
        startsInTheLowestFreeSlot();
        answersOfASlot();
        asksForTicks();
        delays();
        waitsForActors();
        freezes();
        endsATurnAfter300();
        startedSlotsHaveTheirTurn();
        aFreedSlotIsAsNew();
        spillsOrders();
        Check.finish();
    }

    private static final int[] BREAK = Tale.raw(1);
    private static final int[] END = Tale.raw(0);

    private static int[] o(int kind, int... words) {
        int[] order = {kind};
        for (int word : words) {
            order = Tale.join(order, Tale.word(word));
        }
        return order;
    }

    private static void startsInTheLowestFreeSlot() {
        StageHouse house = new Tale().script(1, BREAK, BREAK, BREAK, BREAK).script(2, END).house();
        Check.due("start(1)", house.start(1), 0);
        Check.due("start(2)", house.start(2), 1);
        Check.due("start(1)", house.start(1), 2);
        Check.due("start(3)", house.start(3), -1);
        Check.due("start(0)", house.start(0), -1);
        Check.due("start(-1)", house.start(-1), -1);
        Check.due("start(61)", house.start(61), -1);
        Check.due("start(most)", house.start(Integer.MAX_VALUE), -1);
        Check.due("running", house.count(1), 3);
        Check.due("tick(1)", house.tick(1), 3);
        Check.due("running", house.count(1), 2);
        Check.due("the lowest free one", house.start(2), 1);
        for (int i = 3; i < 8; i++) {
            Check.due("start(1)", house.start(1), i);
        }
        Check.due("SPILLED", house.count(5), 0);
        Check.due("no SLOT is free", house.start(1), -1);
        Check.due("SPILLED", house.count(5), 1);
        Check.due("no such SCRIPT", house.start(9), -1);
        Check.due("SPILLED still", house.count(5), 1);
        Check.due("running", house.count(1), 8);
    }

    private static void answersOfASlot() {
        StageHouse house = new Tale().script(5, Tale.order(3, Tale.local(1), Tale.word(-6)), o(10, 7), BREAK)
            .house();
        house.start(5);
        Check.due("PLACE at first", house.slot(0, 1), 0);
        house.tick(1);
        int[] due = {5, 10, 7, 0, 0, 0, 0, -6, 0, 0};
        for (int what = 0; what < 10; what++) {
            Check.due("slot(0, " + what + ")", house.slot(0, what), due[what]);
            Check.due("slot(1, " + what + ")", house.slot(1, what), 0);
            Check.due("slot(8, " + what + ")", house.slot(8, what), -1);
            Check.due("slot(-1, " + what + ")", house.slot(-1, what), -1);
        }
        Check.due("slot(0, 10)", house.slot(0, 10), -1);
        Check.due("slot(0, -1)", house.slot(0, -1), -1);
        Check.due("slot(1, 10)", house.slot(1, 10), -1);
        Check.due("slot(0, most)", house.slot(0, Integer.MAX_VALUE), -1);
        Check.due("slot(0, least)", house.slot(0, Integer.MIN_VALUE), -1);
    }

    private static void asksForTicks() {
        StageHouse house = new Tale().script(1, BREAK, Tale.order(2, Tale.jump(0))).house();
        house.start(1);
        Check.due("tick(0)", house.tick(0), 0);
        Check.due("TICK 0", house.count(0), 0);
        Check.due("tick(201)", house.tick(201), -1);
        Check.due("tick(-1)", house.tick(-1), -1);
        Check.due("tick(least)", house.tick(Integer.MIN_VALUE), -1);
        Check.due("TICK 0 still", house.count(0), 0);
        Check.due("tick(200)", house.tick(200), 399);
        Check.due("TICK 200", house.count(0), 200);
        house.set(0, 5);
        Check.due("VARIABLE 0 is set", house.variable(0), 5);
        Check.due("TICK is not", house.count(0), 200);
        house.tick(1);
        Check.due("VARIABLE 0 is the TICK again", house.variable(0), 201);
    }

    private static void delays() {
        StageHouse house = new Tale().script(1, o(10, 1), o(20, 1), o(10, 3), o(20, 3), o(10, 0), o(20, 4),
            o(10, -5), o(20, 5), END).house();
        house.start(1);
        Check.due("DELAY 1: ORDERS", house.tick(1), 1);
        Check.due("DELAY 1", house.slot(0, 2), 1);
        Check.due("over after one TICK", house.tick(1), 2);
        Check.due("DELAY 3", house.slot(0, 2), 3);
        Check.due("nothing", house.tick(1), 0);
        Check.due("DELAY 2", house.slot(0, 2), 2);
        Check.due("nothing", house.tick(1), 0);
        Check.due("DELAY 1", house.slot(0, 2), 1);
        Check.due("over", house.tick(1), 2);
        Check.due("DELAY 0 is none", house.slot(0, 2), 0);
        Check.due("but a BREAK", house.note(0), 3);
        Check.due("goes on", house.tick(1), 2);
        Check.due("DELAY -5 is none", house.slot(0, 2), 0);
        Check.due("but a BREAK", house.note(0), 4);
        Check.due("goes on", house.tick(1), 2);
        Check.due("ended", house.count(1), 0);
    }

    private static void waitsForActors() {
        StageHouse house = new Tale().room(1, 0, 0, 9, 0, 0).actor(3, 1, 0, 0, 1)
            .script(1, o(14, 3, 2, 0), o(15, 3), o(20, 1), o(15, 3), o(20, 2), END).house();
        house.start(1);
        Check.due("14, 15", house.tick(1), 2);
        Check.due("WAITS for 3", house.slot(0, 3), 3);
        Check.due("x 1", house.actor(3, 1), 1);
        Check.due("it walks", house.tick(1), 0);
        Check.due("x 2", house.actor(3, 1), 2);
        Check.due("it walks still: it has not seen that it is there", house.tick(1), 0);
        Check.due("it walks no more", house.actor(3, 4), 0);
        Check.due("WAITS still", house.slot(0, 3), 3);
        Check.due("goes on, and WAITS again", house.tick(1), 2);
        Check.due("WAITS for one that does not walk", house.slot(0, 3), 3);
        Check.due("goes on", house.tick(1), 2);
        Check.due("NOTE", house.note(0), 2);
    }

    private static void freezes() {
        int[] loop = Tale.join(BREAK, Tale.order(2, Tale.jump(0)));
        StageHouse house = new Tale().script(1, loop).script(2, o(22, -1), BREAK, o(11, 1), o(22, 0), END)
            .script(3, o(10, 9), END).house();
        house.start(1);
        house.start(3);
        house.start(2);
        house.start(1);
        Check.due("1, 3, 2 and its BREAK; the last is FROZEN", house.tick(1), 4);
        int[] frozen = {1, 1, 0, 1, 0, 0, 0, 0};
        for (int i = 0; i < 8; i++) {
            Check.due("slot(" + i + ", 4)", house.slot(i, 4), frozen[i]);
        }
        Check.due("a DELAY at first", house.slot(1, 2), 9);
        Check.due("FROZEN ones run, too", house.count(1), 4);
        Check.due("started while others are FROZEN: not FROZEN; SLOT 3 and 4 have TURNS", house.tick(1), 5);
        Check.due("a DELAY stands while FROZEN", house.slot(1, 2), 9);
        for (int i = 0; i < 8; i++) {
            Check.due("none is FROZEN", house.slot(i, 4), 0);
        }
        Check.due("SLOT 0 goes on", house.tick(1), 6);
        Check.due("a DELAY goes on", house.slot(1, 2), 8);
        house = new Tale().script(1, o(22, 1), END).script(2, BREAK, BREAK).house();
        house.start(1);
        house.start(2);
        house.tick(2);
        Check.due("FROZEN after its freezer's END", house.slot(1, 4), 1);
        Check.due("at PLACE 0", house.slot(1, 1), 0);
        house.start(2);
        Check.due("a new one is not", house.slot(0, 4), 0);
    }

    private static void endsATurnAfter300() {
        int[] adds = Tale.join(Tale.order(4, Tale.global(9), Tale.word(1)), Tale.order(2, Tale.jump(0)));
        StageHouse house = new Tale().script(1, adds).house();
        house.start(1);
        Check.due("tick(1)", house.tick(1), 300);
        Check.due("VARIABLE 9", house.variable(9), 150);
        Check.due("PLACE", house.slot(0, 1), 0);
        Check.due("tick(2)", house.tick(2), 600);
        Check.due("VARIABLE 9", house.variable(9), 450);
        int[] code = new int[0];
        for (int i = 0; i < 299; i++) {
            code = Tale.join(code, o(20, i));
        }
        house = new Tale().script(1, code, Tale.raw(99)).script(2, code, o(20, 299), END).house();
        house.start(1);
        Check.due("the 300th CRASHES", house.tick(1), 299);
        Check.due("CRASHES", house.count(4), 1);
        house.start(2);
        Check.due("300 and no more", house.tick(1), 300);
        Check.due("not ended", house.count(1), 1);
        Check.due("then the END", house.tick(1), 1);
        Check.due("NOTES in all", house.count(3), 599);
    }

    private static void startedSlotsHaveTheirTurn() {
        StageHouse house = new Tale().script(1, BREAK, o(11, 2), o(11, 2), BREAK).script(2, o(20, 5), BREAK)
            .script(3, END).house();
        house.start(3);
        house.start(1);
        Check.due("SLOT 0 ENDs", house.tick(1), 2);
        Check.due("a lower SLOT has none in this TICK, a higher one has", house.tick(1), 5);
        Check.due("SLOT 0's PLACE", house.slot(0, 1), 0);
        Check.due("SLOT 2's PLACE", house.slot(2, 1), 5);
        house = new Tale().script(1, o(12, 2), BREAK).script(2, o(20, 5), BREAK).house();
        house.start(1);
        house.start(2);
        Check.due("a SLOT that was freed has no TURN", house.tick(1), 2);
        Check.due("NOTES", house.count(3), 0);
    }

    private static void aFreedSlotIsAsNew() {
        int[] local = Tale.order(3, Tale.local(3), Tale.word(5));
        StageHouse house = new Tale().actor(1, 0, 0, 0, 0).script(1, local, o(10, 9)).script(2, local, o(15, 1))
            .script(3, o(22, 1), o(12, 1), o(12, 2), BREAK).script(4, BREAK, BREAK).house();
        house.start(1);
        house.start(2);
        house.start(3);
        Check.due("tick(1)", house.tick(1), 8);
        for (int what = 0; what < 10; what++) {
            Check.due("slot(0, " + what + ")", house.slot(0, what), 0);
            Check.due("slot(1, " + what + ")", house.slot(1, what), 0);
        }
        Check.due("start(4)", house.start(4), 0);
        Check.due("start(4)", house.start(4), 1);
        Check.due("both run at once; the freezer CRASHES at its end", house.tick(1), 2);
        Check.due("LOCAL 3", house.slot(0, 9), 0);
    }

    private static void spillsOrders() {
        int[] nine = new int[0];
        for (int i = 0; i < 9; i++) {
            nine = Tale.join(nine, o(11, 2));
        }
        StageHouse house = new Tale().script(1, nine, o(11, 9), BREAK).script(2, BREAK, END).house();
        house.start(1);
        Check.due("all ORDERS are done", house.tick(1), 18);
        Check.due("SPILLED 2", house.count(5), 2);
        Check.due("running", house.count(1), 8);
    }
}
