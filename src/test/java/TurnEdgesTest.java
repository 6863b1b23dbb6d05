/** The edges of SLOTS, TURNS and TICKS: Term 2, promises 6 (tick), 7 (start) and 12 (slot). */
public final class TurnEdgesTest extends Edges {
    public static void main(String[] args) {
        startsInTheLowest();
        startsNone();
        startsWithNoSlotFree();
        newSlots();
        freedSlots();
        frozenTurns();
        delayedTurns();
        waitingTurns();
        waitsForOneThatStops();
        threeHundredOrders();
        theThreeHundredth();
        crashAfterMany();
        turnsInOrder();
        startedInATick();
        ticks();
        refusedTicks();
        mostOrders();
        theLastCall();
        variableZero();
        actorsComeLast();
        slotAnswers();
        refusedSlots();
        Check.finish();
    }

    private static StageHouse house(int[]... code) {
        StageHouse house = new Tale().script(1, code).script(2, loop()).house();
        house.start(1);
        return house;
    }

    private static void startsInTheLowest() {
        says("eight SLOTS");
        StageHouse house = new Tale().script(1, loop()).script(60, words(12, 1), END).house();
        for (int i = 0; i < 8; i++) {
            due("start(1)", house.start(1), i);
        }
        due("a ninth", house.start(1), NONE);
        says("SCRIPT s is STARTED: its SLOT; NONE if it is not.");
        house = new Tale().script(1, loop()).script(60, END).house();
        for (int i = 0; i < 8; i++) {
            house.start(i == 0 || i == 5 || i == 7 ? 60 : 1);
        }
        house.tick(1);
        due("the lowest free one", house.start(1), 0);
        due("then the next", house.start(1), 5);
        due("then the last", house.start(60), 7);
        due("then none", house.start(60), NONE);
    }

    private static void startsNone() {
        says("nothing happens if there is no such SCRIPT");
        StageHouse house = new Tale().script(1, END).script(60, END).house();
        for (int s : new int[] {LEAST, -60, -1, 0, 2, 59, 61, 256 + 1, 65536 + 1, MOST}) {
            due("start(" + s + ")", house.start(s), NONE);
        }
        due("running", house.count(1), 0);
        due("SPILLED", house.count(5), 0);
        due("start(60)", house.start(60), 0);
        due("start(1)", house.start(1), 1);
    }

    private static void startsWithNoSlotFree() {
        says("or no SLOT free (one SPILLED more)");
        StageHouse house = new Tale().script(1, loop()).house();
        for (int i = 0; i < 8; i++) {
            house.start(1);
        }
        due("SPILLED before", house.count(5), 0);
        for (int i = 1; i <= 3; i++) {
            due("start(1)", house.start(1), NONE);
            due("SPILLED", house.count(5), i);
        }
        due("no such SCRIPT", house.start(2), NONE);
        due("SPILLED: not for that", house.count(5), 3);
        for (int i = 0; i < 8; i++) {
            due("slot(" + i + ", 0)", house.slot(i, 0), 1);
            due("slot(" + i + ", 1)", house.slot(i, 1), 0);
        }
        due("running", house.count(1), 8);
        due("tick(1)", house.tick(1), 8);
    }

    private static void newSlots() {
        says("the lowest free SLOT runs it from PLACE 0");
        StageHouse house = house(o(3, l(0), w(1)), o(3, l(1), w(2)), o(3, l(2), w(3)), o(3, l(3), w(4)), words(10, 1),
            END);
        house.tick(2);
        due("start(1) once more", house.start(1), 0);
        int[] slot = {1, 0, 0, 0, 0, 0, 0, 0, 0, 0};
        for (int what = 0; what <= 9; what++) {
            due("slot(0, " + what + ")", house.slot(0, what), slot[what]);
        }
    }

    private static void freedSlots() {
        says("A SLOT is free, or runs a SCRIPT");
        StageHouse house = new Tale().actor(1, 0, 0, 0, 0).script(1, o(3, l(3), w(5)), words(10, 9)).script(2, words(15, 1))
            .script(3, BREAK, words(22, 1), words(12, 1), words(12, 2), BREAK, BREAK).script(4, BREAK, BREAK)
            .object(1, 0, 0, 0, 0, 1, 4).script(5, words(12, 4), END).house();
        house.walk(1, 9, 9);
        house.start(1);
        house.start(2);
        house.start(3);
        house.tick(1);
        due("one has a DELAY", house.slot(0, 2), 9);
        due("one WAITS", house.slot(1, 3), 1);
        house.tick(1);
        for (int i = 0; i < 2; i++) {
            isFree("freed with DELAY, WAITS, LOCALS and FROZEN", house, i);
            due("start(4)", house.start(4), i);
            for (int what = 1; what <= 9; what++) {
                due("slot(" + i + ", " + what + ")", house.slot(i, what), 0);
            }
        }
        due("they have TURNS at once", house.tick(1), 3);
        house.say(1, 1, 0);
        house.tick(1);
        house.start(5);
        house.tick(1);
        for (int i = 0; i < 8; i++) {
            due("no SLOT keeps that a SENTENCE STARTED it", house.slot(i, 5), 0);
        }
    }

    private static void frozenTurns() {
        says("FROZEN: nothing.");
        StageHouse house = new Tale().actor(1, 0, 0, 0, 0).script(1, words(10, 5), END).script(2, words(15, 1), END)
            .script(3, note(1), loop()).script(4, BREAK, words(22, 1), words(10, 2), words(22, 0), END).house();
        house.start(1);
        house.start(2);
        house.start(3);
        house.start(4);
        due("four TURNS", house.tick(1), 5);
        due("DELAY is 5", house.slot(0, 2), 5);
        due("SLOT 0 has a TURN, SLOT 1 ends, SLOT 2 goes to 0; then they are FROZEN", house.tick(1), 6);
        due("DELAY is 4", house.slot(0, 2), 4);
        due("PLACE", house.slot(2, 1), 5);
        due("nothing for SLOT 3 has a DELAY", house.tick(1), 0);
        due("DELAY stays", house.slot(0, 2), 4);
        due("NOTES stay", house.count(3), 2);
        due("22 0 comes behind their TURNS", house.tick(1), 2);
        due("DELAY stays", house.slot(0, 2), 4);
        due("none is FROZEN", house.slot(0, 4) + house.slot(2, 4), 0);
        house.tick(1);
        due("DELAY goes on", house.slot(0, 2), 3);
        house = new Tale().actor(1, 0, 0, 0, 0).script(1, words(15, 1), END).script(2, words(22, 1), BREAK, BREAK).house();
        house.start(1);
        house.start(2);
        house.tick(2);
        due("one that WAITS WAITS on while FROZEN", house.slot(0, 3), 1);
        due("it is FROZEN", house.slot(0, 4), 1);
    }

    private static void delayedTurns() {
        says("DELAY above 0: one less; if it is still above 0, nothing more.");
        StageHouse house = house(words(10, 1), note(1), words(10, 2), note(2), words(10, 3), note(3), BREAK);
        int[][] rows = {{1, 1}, {2, 2}, {0, 1}, {2, 3}, {0, 2}, {0, 1}, {2, 0}};
        for (int[] row : rows) {
            due("ORDERS", house.tick(1), row[0]);
            due("DELAY", house.slot(0, 2), row[1]);
        }
        house = house(o(10, g(9)), END);
        house.set(9, MOST);
        house.tick(1);
        for (int i = 1; i <= 3; i++) {
            house.tick(200);
            due("a DELAY of the highest int", house.slot(0, 2), MOST - 200 * i);
        }
    }

    private static void waitingTurns() {
        says("WAITS for an ACTOR that walks: nothing; else it WAITS no more.");
        StageHouse house = new Tale().room(1, 0, 0, 9, 0, 0).actor(1, 1, 0, 0, 1).actor(12, 1, 0, 0, 1)
            .script(1, words(15, 12), BREAK, BREAK).house();
        house.walk(1, 9, 0);
        house.walk(12, 1, 0);
        house.start(1);
        due("15", house.tick(1), 1);
        due("ACTOR 12 walks", house.actor(12, 4), 1);
        due("nothing", house.tick(1), 0);
        due("ACTOR 12 walks no more", house.actor(12, 4), 0);
        due("it WAITS until its TURN", house.slot(0, 3), 12);
        due("ACTOR 1 walks still", house.actor(1, 4), 1);
        due("its TURN", house.tick(1), 1);
        due("it WAITS no more", house.slot(0, 3), 0);
        house.walk(12, 9, 0);
        due("it does not WAIT again by itself", house.tick(1), 1);
    }

    private static void waitsForOneThatStops() {
        says("WAITS for an ACTOR that walks: nothing; else it WAITS no more.");
        StageHouse house = new Tale().actor(1, 0, 0, 0, 0).script(1, words(14, 1, 5, 5), words(15, 1), note(1), BREAK)
            .script(2, BREAK, BREAK, words(13, 1, 0, 9, 9), BREAK).house();
        house.start(1);
        house.start(2);
        due("14, 15, BREAK", house.tick(1), 3);
        due("BREAK", house.tick(1), 1);
        due("13: it does not walk", house.tick(1), 2);
        due("WAITS for it until its TURN", house.slot(0, 3), 1);
        due("goes on; SCRIPT 2 CRASHES", house.tick(1), 2);
        due("NOTE", house.note(0), 1);
    }

    private static void threeHundredOrders() {
        says("or 300 ORDERS were done in the TURN (as if BREAK stood behind; one that CRASHES is not done)");
        for (int many = 298; many <= 302; many++) {
            StageHouse house = house(times(many, o(4, g(9), w(1))), BREAK);
            due(many + " and BREAK: ORDERS", house.tick(1), Math.min(300, many + 1));
            due("VARIABLE 9", house.variable(9), Math.min(300, many));
            due("PLACE", house.slot(0, 1), many < 300 ? 6 * many + 1 : 1800);
            due("CRASHES", house.count(4), 0);
            due("running", house.count(1), 1);
            due("the next TURN", house.tick(1), many < 300 ? 0 : many + 1 - 300);
            due("CRASHES", house.count(4), many < 300 ? 1 : 0);
        }
        StageHouse house = new Tale().script(1, o(4, g(9), w(1)), o(2, j(0))).house();
        for (int i = 0; i < 8; i++) {
            house.start(1);
        }
        due("each SLOT has its own 300", house.tick(1), 2400);
        due("VARIABLE 9", house.variable(9), 1200);
        due("running", house.count(1), 8);
    }

    private static void theThreeHundredth() {
        says("or 300 ORDERS were done in the TURN");
        int[] many = times(299, note(1));
        StageHouse house = house(many, END, note(2));
        due("END", house.tick(1), 300);
        isFree("END", house, 0);
        house = house(many, BREAK, note(2), BREAK);
        due("BREAK", house.tick(1), 300);
        due("and no second one", house.tick(1), 2);
        house = house(many, words(10, 2), note(2), BREAK);
        due("DELAY", house.tick(1), 300);
        due("DELAY", house.slot(0, 2), 2);
        due("it is held", house.tick(1), 0);
        house = house(many, words(33, 2));
        due("33", house.tick(1), 300);
        due("the other SCRIPT", house.slot(0, 0), 2);
        due("at its beginning", house.slot(0, 1), 0);
        house = house(many, words(33, 3));
        due("33 to none", house.tick(1), 300);
        isFree("33 to none", house, 0);
        house = house(many, words(12, 1), note(2));
        due("12 of itself", house.tick(1), 300);
        isFree("12 of itself", house, 0);
        house = house(many, o(2, j(0)));
        due("2", house.tick(1), 300);
        due("PLACE", house.slot(0, 1), 0);
    }

    private static void crashAfterMany() {
        says("one that CRASHES is not done");
        for (int many : new int[] {0, 1, 298, 299, 300, 301}) {
            StageHouse house = house(times(many, note(1)), CRASH);
            due("after " + many, house.tick(1), Math.min(300, many));
            due("CRASHES", house.count(4), many < 300 ? 1 : 0);
            house.tick(1);
            due("CRASHES", house.count(4), 1);
            due("running", house.count(1), 0);
            due("NOTES", house.count(3), many);
        }
    }

    private static void turnsInOrder() {
        says("Then SLOTS 0 .. 7, each its TURN.");
        Tale tale = new Tale();
        for (int s = 1; s <= 8; s++) {
            tale.script(s, note(s), BREAK, BREAK);
        }
        StageHouse house = tale.house();
        for (int s = 8; s >= 1; s--) {
            house.start(s);
        }
        due("ORDERS", house.tick(1), 16);
        for (int i = 0; i < 8; i++) {
            due("note(" + i + ")", house.note(i), i + 1);
        }
        due("one TURN each", house.tick(1), 8);
    }

    private static void startedInATick() {
        says("Then SLOTS 0 .. 7, each its TURN.");
        StageHouse house = new Tale().script(1, END).script(2, words(11, 3), words(11, 3), END).script(3, note(3), BREAK,
            BREAK).house();
        house.start(1);
        house.start(2);
        due("END; 11 to SLOT 0, 11 to SLOT 2, END; SLOT 2's TURN", house.tick(1), 6);
        due("SLOT 0 had none", house.slot(0, 1), 0);
        due("SLOT 2 had one", house.slot(2, 1), 5);
        due("a SLOT that was freed behind its TURN", house.slot(1, 0), 0);
    }

    private static void ticks() {
        says("n TICKS (0 .. 200): how many ORDERS were done.");
        StageHouse house = house(loop());
        due("tick(0)", house.tick(0), 0);
        due("TICK", house.count(0), 0);
        due("VARIABLE 0", house.variable(0), 0);
        due("nothing had a TURN", house.slot(0, 1), 0);
        due("tick(1)", house.tick(1), 1);
        due("TICK", house.count(0), 1);
        due("tick(199)", house.tick(199), 398);
        due("TICK", house.count(0), 200);
        due("tick(200)", house.tick(200), 400);
        due("TICK", house.count(0), 400);
        due("none runs", new StageHouse().tick(200), 0);
    }

    private static void refusedTicks() {
        says("NONE for another n.");
        StageHouse house = house(loop());
        house.say(1, 1, 1);
        String was = look(house);
        for (int n : new int[] {LEAST, -200, -1, 201, 256, 65536, MOST}) {
            due("tick(" + n + ")", house.tick(n), NONE);
            same("nothing happens", look(house), was);
        }
    }

    private static void mostOrders() {
        says("n TICKS (0 .. 200): how many ORDERS were done.");
        StageHouse house = new Tale().script(1, o(2, j(0))).house();
        for (int i = 0; i < 8; i++) {
            house.start(1);
        }
        due("the most there can be", house.tick(200), 480000);
    }

    private static void theLastCall() {
        says("An object is used for at most 512 calls after it has been made");
        Tale tale = new Tale().script(1, o(20, g(0)), o(20, g(0)), BREAK, o(2, j(0)));
        StageHouse house = tale.house();
        int made = (tale.bytes().length + 19) / 20 + 2;
        for (int i = 0; i < 8; i++) {
            house.start(1);
        }
        for (int i = made + 8; i < 508; i++) {
            house.tick(200);
        }
        int ticks = 200 * (508 - made - 8);
        due("the 509th: tick(200)", house.tick(200), 200 * 8 * 4);
        due("the 510th: NOTES in all", house.count(3), 16 * (ticks + 200));
        due("the 511th: note(63)", house.note(63), ticks + 197);
        due("the 512th: TICK", house.count(0), ticks + 200);
    }

    private static void variableZero() {
        says("its number one more; VARIABLE 0 is it.");
        StageHouse house = house(o(20, g(0)), o(3, g(0), w(-5)), BREAK, o(2, j(0)));
        house.set(0, 99);
        house.tick(1);
        due("at its TURN it is the TICK", house.note(0), 1);
        due("a SCRIPT may set it", house.variable(0), -5);
        due("TICK", house.count(0), 1);
        house.tick(1);
        due("it is the TICK again", house.note(0), 2);
        due("TICK", house.count(0), 2);
        house.set(0, MOST);
        house.tick(1);
        due("also from the highest int", house.note(0), 3);
    }

    private static void actorsComeLast() {
        says("Then ACTORS 1 .. 12 that walk, each SPEED STEPS.");
        StageHouse house = new Tale().room(1, 0, 0, 255, 0, 0).actor(1, 1, 0, 0, 8).actor(12, 1, 0, 0, 1)
            .script(1, words(14, 1, 100, 0), words(14, 12, 100, 0), o(23, g(9), w(1)), BREAK, o(23, g(9), w(1)), BREAK)
            .house();
        house.start(1);
        house.tick(1);
        due("x in the TURN before the STEPS", house.variable(9), 0);
        due("x behind them", house.actor(1, 1), 8);
        due("x of ACTOR 12", house.actor(12, 1), 1);
        house.tick(1);
        due("x in the next TURN", house.variable(9), 8);
        due("x behind it", house.actor(1, 1), 16);
    }

    private static void slotAnswers() {
        says("6 .. 9: LOCALS (of a free one 0 all)");
        StageHouse house = new StageHouse();
        for (int i = 0; i < 8; i++) {
            isFree("a new house", house, i);
        }
        house = new Tale().actor(12, 0, 0, 0, 0).script(60, o(3, l(0), w(-1)), o(3, l(3), w(-32768)), words(14, 12, 1, 1),
            words(15, 12), END).script(1, o(3, l(1), w(9)), words(10, 32767)).script(2, BREAK, words(22, 1), BREAK).house();
        house.start(60);
        house.start(1);
        for (int i = 2; i < 8; i++) {
            house.start(2);
        }
        house.tick(1);
        int[] first = {60, 26, 0, 12, 0, 0, -1, 0, 0, -32768};
        int[] second = {1, 10, 32767, 0, 0, 0, 0, 9, 0, 0};
        int[] last = {2, 1, 0, 0, 0, 0, 0, 0, 0, 0};
        for (int what = 0; what <= 9; what++) {
            due("slot(0, " + what + ")", house.slot(0, what), first[what]);
            due("slot(1, " + what + ")", house.slot(1, what), second[what]);
            due("slot(7, " + what + ")", house.slot(7, what), last[what]);
        }
        house.tick(1);
        for (int i = 0; i < 8; i++) {
            due("slot(" + i + ", 4)", house.slot(i, 4), i == 2 ? 0 : 1);
        }
    }

    private static void refusedSlots() {
        says("NONE for no such SLOT, another what.");
        StageHouse house = house(loop());
        for (int i : new int[] {LEAST, -1, 8, 256, MOST}) {
            for (int what = -1; what <= 10; what++) {
                due("slot(" + i + ", " + what + ")", house.slot(i, what), NONE);
            }
        }
        for (int i = 0; i < 8; i++) {
            for (int what : new int[] {LEAST, -1, 10, 11, 256, MOST}) {
                due("slot(" + i + ", " + what + ")", house.slot(i, what), NONE);
            }
        }
    }
}
