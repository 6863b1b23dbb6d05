/** The edges of what each ORDER does, one after another (Term 2). */
public final class OrderEdgesTest extends Edges {
    public static void main(String[] args) {
        end();
        breaks();
        delays();
        starts();
        stopsOthers();
        stopsItself();
        stopsNone();
        putsActors();
        sendsActors();
        awaitsActors();
        setsSpeeds();
        setsStates();
        setsOwners();
        shutsBoxes();
        notes();
        says();
        freezes();
        unfreezes();
        freezesNoFreeSlot();
        asksActors();
        asksObjects();
        countsSlots();
        measures();
        drawsLuck();
        chains();
        chainsToNone();
        Check.finish();
    }

    /** SCRIPT 1 is started; SCRIPT 2 goes on and on, SCRIPT 60 NOTES 60 and BREAKS. */
    private static StageHouse house(int[]... code) {
        StageHouse house = new Tale().room(1, 0, 0, 9, 9, 0, 20, 0, 29, 9, 1)
            .room(20, times(16, new int[] {0, 0, 255, 255, 0})).actor(1, 1, 5, 6, 3).actor(12, 20, 0, 255, 0)
            .object(1, 1, 5, 6, 7).object(60, 20, 255, 0, 255).script(1, code).script(2, loop())
            .script(60, note(60), BREAK, END).house();
        house.start(1);
        return house;
    }

    private static void end() {
        says("0 END: the SLOT is free.");
        StageHouse house = house(o(3, l(0), w(1)), END, note(1));
        house.start(2);
        due("ORDERS: END is one", house.tick(1), 3);
        isFree("END", house, 0);
        due("CRASHES", house.count(4), 0);
        due("the others run", house.count(1), 1);
        due("it is the lowest free SLOT", house.start(60), 0);
    }

    private static void breaks() {
        says("until BREAK (also 10, 15), the SLOT is free");
        StageHouse house = house(BREAK, BREAK, note(1), BREAK);
        due("ORDERS: BREAK is one", house.tick(1), 1);
        due("PLACE", house.slot(0, 1), 1);
        due("the next BREAK", house.tick(1), 1);
        due("the rest", house.tick(1), 2);
    }

    private static void delays() {
        says("10 v: DELAY v, if that is above 0, and BREAK.");
        for (int v : new int[] {LEAST, -32768, -1, 0, 1, 2, 32767, MOST}) {
            StageHouse house = house(o(10, g(9)), note(1), BREAK);
            house.set(9, v);
            due("DELAY " + v + ": ORDERS", house.tick(1), 1);
            due("DELAY " + v, house.slot(0, 2), Math.max(0, v));
            due("PLACE", house.slot(0, 1), 3);
            due("a TICK later", house.tick(1), v > 1 ? 0 : 2);
            due("DELAY then", house.slot(0, 2), v > 1 ? v - 1 : 0);
            due("CRASHES", house.count(4), 0);
        }
        StageHouse house = house(words(10, 200), note(1), BREAK);
        house.tick(1);
        due("199 TICKS of 200", house.tick(199), 0);
        due("DELAY", house.slot(0, 2), 1);
        due("the 200th", house.tick(1), 2);
    }

    private static void starts() {
        says("nothing happens if there is no such SCRIPT, or no SLOT free (one SPILLED more)");
        StageHouse house = house(times(7, words(11, 2)), words(11, 60), words(11, 3), words(11, 2), BREAK);
        due("10 and BREAK, and seven BREAKS", house.tick(1), 18);
        for (int i = 1; i < 8; i++) {
            due("slot(" + i + ", 0)", house.slot(i, 0), 2);
            due("slot(" + i + ", 5)", house.slot(i, 5), 0);
        }
        due("SPILLED: not for SCRIPT 3, that is not there", house.count(5), 2);
        due("running", house.count(1), 8);
        for (int s : new int[] {LEAST, -1, 0, 3, 61, 256 + 2, MOST}) {
            house = house(o(11, g(9)), BREAK);
            house.set(9, s);
            due("11 of " + s, house.tick(1), 2);
            due("running", house.count(1), 1);
            due("SPILLED", house.count(5), 0);
        }
    }

    private static void stopsOthers() {
        says("12 v: all SLOTS that run SCRIPT v are free");
        StageHouse house = new Tale().script(1, words(12, 2), note(5), BREAK).script(2, loop()).script(3, loop()).house();
        for (int i = 0; i < 8; i++) {
            house.start(i == 4 ? 1 : i == 6 ? 3 : 2);
        }
        due("four BREAKS, three ORDERS of SLOT 4, and SLOT 6", house.tick(1), 8);
        for (int i = 0; i < 8; i++) {
            if (i != 4 && i != 6) {
                isFree("stopped", house, i);
            }
        }
        due("SLOT 6 runs", house.slot(6, 0), 3);
        due("the TURN goes on", house.note(0), 5);
        due("the lowest free SLOT", house.start(2), 0);
    }

    private static void stopsItself() {
        says("(this one, too: its TURN is over)");
        StageHouse house = house(words(12, 1), note(1), BREAK);
        for (int i = 1; i < 8; i++) {
            house.start(1);
        }
        due("all are free after one ORDER", house.tick(1), 1);
        for (int i = 0; i < 8; i++) {
            isFree("stopped", house, i);
        }
        due("NOTES", house.count(3), 0);
        due("CRASHES", house.count(4), 0);
    }

    private static void stopsNone() {
        says("12 v: all SLOTS that run SCRIPT v are free");
        for (int s : new int[] {LEAST, -1, 0, 3, 60, 61, 256 + 2, MOST}) {
            StageHouse house = house(o(12, g(9)), note(1), BREAK);
            house.start(2);
            house.set(9, s);
            due("12 of " + s, house.tick(1), 4);
            due("running", house.count(1), 2);
        }
    }

    private static void putsActors() {
        says("13 a r x y: ACTOR a is in ROOM r at x, y, and does not walk.");
        int[][] places = {{0, 0, 0}, {20, 255, 255}, {20, 0, 255}, {0, 255, 0}, {7, 1, 1}};
        for (int a : new int[] {1, 12}) {
            for (int[] place : places) {
                StageHouse house = house(words(14, a, 3, 3), words(13, a, place[0], place[1], place[2]), BREAK);
                due("ORDERS", house.tick(1), 3);
                for (int what = 0; what < 3; what++) {
                    due("actor(" + a + ", " + what + ")", house.actor(a, what), place[what]);
                }
                due("its SPEED stays", house.actor(a, 3), a == 1 ? 3 : 0);
                due("it does not walk", house.actor(a, 4), 0);
                due("where to: x", house.actor(a, 5), NONE);
                due("where to: y", house.actor(a, 6), NONE);
            }
        }
    }

    private static void sendsActors() {
        says("14 a x y: ACTOR a walks to x, y.");
        for (int to : new int[] {0, 255}) {
            StageHouse house = house(words(14, 12, to, 255 - to), BREAK);
            house.tick(1);
            due("it walks", house.actor(12, 4), 1);
            due("to x", house.actor(12, 5), to);
            due("to y", house.actor(12, 6), 255 - to);
        }
        StageHouse house = house(words(14, 1, 5, 6), o(27, g(9), w(1)), BREAK);
        house.tick(1);
        due("it walks also if it is there", house.variable(9), 1);
        due("until its first STEP", house.actor(1, 4), 0);
    }

    private static void awaitsActors() {
        says("15 a: WAITS for ACTOR a and BREAK.");
        StageHouse house = house(words(15, 12), note(1), words(14, 12, 9, 9), words(15, 12), note(2), BREAK);
        due("ORDERS", house.tick(1), 1);
        due("WAITS for one that does not walk", house.slot(0, 3), 12);
        due("goes on at once", house.tick(1), 3);
        due("WAITS again", house.slot(0, 3), 12);
        due("SPEED 0: it WAITS on and on", house.tick(50), 0);
        due("WAITS", house.slot(0, 3), 12);
        due("DELAY", house.slot(0, 2), 0);
    }

    private static void setsSpeeds() {
        says("16 a v: its SPEED.");
        for (int v = 0; v <= 8; v++) {
            StageHouse house = house(words(13, 1, 20, 0, 0), words(14, 1, 99, 0), words(16, 1, v), BREAK);
            house.tick(1);
            due("SPEED", house.actor(1, 3), v);
            due("so many STEPS", house.actor(1, 1), v);
            due("it walks still", house.actor(1, 4), 1);
        }
    }

    private static void setsStates() {
        says("17 o v: OBJECT's STATE.");
        for (int v : new int[] {0, 1, 127, 128, 254, 255}) {
            StageHouse house = house(words(17, 1, v), words(17, 60, 255 - v), BREAK);
            due("ORDERS", house.tick(1), 3);
            due("STATE", house.object(1, 3), v);
            due("STATE of 60", house.object(60, 3), 255 - v);
        }
    }

    private static void setsOwners() {
        says("OBJECTS with STATE and OWNER (0 at first, or an ACTOR)");
        due("OWNER at first", house(BREAK).object(1, 4), 0);
        says("18 o a: its OWNER (0: none).");
        StageHouse house = house(words(18, 60, 12), words(18, 1, 1), BREAK, words(18, 60, 0), BREAK);
        due("OWNER at first", house.object(60, 4), 0);
        house.tick(1);
        due("OWNER", house.object(60, 4), 12);
        due("OWNER of 1", house.object(1, 4), 1);
        due("its ROOM stays", house.object(60, 0), 20);
        house.tick(1);
        due("none", house.object(60, 4), 0);
        due("OWNER of 1", house.object(1, 4), 1);
    }

    private static void shutsBoxes() {
        says("19 r b v: BOX b (0 .. ) of ROOM r is open (v 0) or SHUT (others).");
        for (int b : new int[] {0, 7, 15}) {
            for (int v : new int[] {LEAST, -1, 1, 2, 256, 65536, MOST, 0}) {
                StageHouse house = house(o(19, w(20), w(b), g(9)), BREAK, words(19, 20, b, 0), BREAK);
                house.set(9, v);
                due("ORDERS", house.tick(1), 2);
                for (int other = 0; other < 16; other++) {
                    int want = other == b && v != 0 ? 1 : 0;
                    due("19 of " + b + " by " + v + ": box(20, " + other + ", 4)", house.box(20, other, 4), want);
                }
                due("another ROOM's", house.box(1, 0, 4), 0);
                due("another ROOM's SHUT one", house.box(1, 1, 4), 1);
                house.tick(1);
                due("open again", house.box(20, b, 4), 0);
            }
        }
        StageHouse house = house(words(19, 1, 1, 5), words(19, 1, 0, 0), BREAK, words(19, 1, 1, 0), BREAK);
        house.tick(1);
        due("SHUT one SHUT again", house.box(1, 1, 4), 1);
        due("open one open again", house.box(1, 0, 4), 0);
        house.tick(1);
        due("SHUT at first, open now", house.box(1, 1, 4), 0);
    }

    private static void notes() {
        says("20 v: v is NOTED.");
        for (int v : new int[] {LEAST, -1, 0, 1, MOST}) {
            StageHouse house = house(o(20, g(9)), BREAK);
            house.set(9, v);
            house.tick(1);
            due("note(0)", house.note(0), v);
            due("NOTES", house.count(3), 1);
        }
    }

    private static void says() {
        says("21 v o p: a SENTENCE comes behind the ROW (nothing, if there are 6: one SPILLED more).");
        StageHouse house = house(o(21, g(9), g(10), g(11)), times(5, words(21, 1, 2, 3)), BREAK,
            words(21, 7, 7, 7), words(21, 8, 8, 8), words(21, 9, 9, 9), BREAK);
        house.set(9, LEAST);
        house.set(10, MOST);
        house.set(11, -1);
        due("ORDERS", house.tick(1), 7);
        due("SENTENCES", house.count(2), 6);
        due("SPILLED", house.count(5), 0);
        due("VERB", house.sentence(0, 0), LEAST);
        due("OBJECT", house.sentence(0, 1), MOST);
        due("other", house.sentence(0, 2), -1);
        due("all ORDERS are done", house.tick(1), 4);
        due("one was taken, one came", house.count(2), 6);
        due("behind the ROW", house.sentence(5, 0), 7);
        due("SPILLED", house.count(5), 2);
    }

    private static void freezes() {
        says("22 v: v not 0: all other SLOTS that run are FROZEN");
        for (int v : new int[] {LEAST, -1, 1, 2, 256, 65536, MOST}) {
            StageHouse house = new Tale().script(1, o(22, g(9)), BREAK, BREAK).script(2, loop()).house();
            house.set(9, v);
            house.start(2);
            house.start(1);
            house.start(2);
            due("22 by " + v, house.tick(1), 3);
            due("a lower SLOT", house.slot(0, 4), 1);
            due("itself", house.slot(1, 4), 0);
            due("a higher SLOT", house.slot(2, 4), 1);
            due("only itself has a TURN", house.tick(1), 1);
        }
        StageHouse house = new Tale().script(1, words(22, 1), words(11, 2), BREAK, BREAK).script(2, words(22, 1), BREAK,
            BREAK).house();
        house.start(1);
        due("one that was STARTED then is not FROZEN, and freezes", house.tick(1), 5);
        due("the first is FROZEN", house.slot(0, 4), 1);
        due("the second is not", house.slot(1, 4), 0);
    }

    private static void unfreezes() {
        says("0: none is.");
        StageHouse house = new Tale().script(1, words(22, 1), words(22, 0), BREAK, words(22, 0), BREAK)
            .script(2, loop()).house();
        house.start(2);
        house.start(1);
        house.start(2);
        due("none is FROZEN, all have TURNS", house.tick(1), 5);
        for (int i = 0; i < 8; i++) {
            due("slot(" + i + ", 4)", house.slot(i, 4), 0);
        }
        due("0 where none was", house.tick(1), 6);
        due("CRASHES", house.count(4), 0);
    }

    private static void freezesNoFreeSlot() {
        says("all other SLOTS that run are FROZEN");
        StageHouse house = house(words(22, 1), BREAK, BREAK);
        due("it alone", house.tick(1), 2);
        for (int i = 0; i < 8; i++) {
            due("slot(" + i + ", 4)", house.slot(i, 4), 0);
        }
        due("a SLOT that was free", house.start(2), 1);
        due("is not FROZEN", house.slot(1, 4), 0);
        due("and has its TURN", house.tick(1), 2);
    }

    private static void asks(String told, int want, int[]... code) {
        StageHouse house = house(Tale.join(code), BREAK);
        house.set(9, -77);
        house.tick(1);
        due(told, house.variable(9), want);
        due(told + ": CRASHES", house.count(4), 0);
    }

    private static void asksActors() {
        says("23 t a: t becomes ACTOR a's x, 24 its y, 25 its ROOM, 26 its BOX (-1 without), 27 whether it walks (1, 0).");
        for (int n : new int[] {0, 255}) {
            asks("x", n, words(13, 1, 20, n, 1), o(23, g(9), w(1)));
            asks("y", n, words(13, 1, 20, 1, n), o(24, g(9), w(1)));
        }
        asks("ROOM 0", 0, words(13, 1, 0, 1, 1), o(25, g(9), w(1)));
        asks("ROOM 20", 20, words(13, 1, 20, 1, 1), o(25, g(9), w(1)));
        asks("BOX 0", 0, o(26, g(9), w(1)));
        asks("BOX 15", 15, times(1, Tale.join(shutFirst15(), o(26, g(9), w(12)))));
        asks("without a BOX", -1, words(13, 1, 1, 10, 6), o(26, g(9), w(1)));
        asks("in a SHUT BOX", -1, words(13, 1, 1, 20, 6), o(26, g(9), w(1)));
        asks("in ROOM 0", -1, words(13, 1, 0, 5, 6), o(26, g(9), w(1)));
        asks("in a ROOM that is not there", -1, words(13, 1, 19, 5, 6), o(26, g(9), w(1)));
        asks("it walks", 1, words(14, 1, 9, 9), o(27, g(9), w(1)));
        asks("it does not walk", 0, o(27, g(9), w(1)));
    }

    private static int[] shutFirst15() {
        int[] code = new int[0];
        for (int b = 0; b < 15; b++) {
            code = Tale.join(code, words(19, 20, b, 1));
        }
        return code;
    }

    private static void asksObjects() {
        says("28 t o: OBJECT o's STATE, 29 its OWNER.");
        asks("STATE", 7, o(28, g(9), w(1)));
        asks("STATE 255", 255, o(28, g(9), w(60)));
        asks("STATE 0", 0, words(17, 60, 0), o(28, g(9), w(60)));
        asks("OWNER none", 0, o(29, g(9), w(60)));
        asks("OWNER 12", 12, words(18, 60, 12), o(29, g(9), w(60)));
    }

    private static void countsSlots() {
        says("30 t s: in how many SLOTS SCRIPT s runs.");
        asks("this one", 1, o(30, g(9), w(1)));
        asks("none", 0, o(30, g(9), w(2)));
        for (int s : new int[] {LEAST, -1, 0, 61, MOST}) {
            StageHouse house = house(o(30, g(9), g(10)), BREAK);
            house.set(9, -77);
            house.set(10, s);
            house.tick(1);
            due("30 of " + s, house.variable(9), 0);
        }
        asks("seven", 7, times(9, words(11, 2)), o(30, g(9), w(2)));
        asks("all eight", 8, times(9, words(11, 1)), o(30, g(9), w(1)));
        asks("FROZEN ones, too", 7, times(7, words(11, 2)), words(22, 1), o(30, g(9), w(2)));
        asks("after 12", 0, times(7, words(11, 2)), words(12, 2), o(30, g(9), w(2)));
    }

    private static void measures() {
        says("31 t a o: how far ACTOR a is from OBJECT o: |x - x'| + |y - y'|; 999 if they are not in one ROOM.");
        asks("at one point", 0, o(31, g(9), w(1), w(1)));
        asks("from corner to corner", 510, o(31, g(9), w(12), w(60)));
        asks("left and above", 11, words(13, 1, 1, 0, 0), o(31, g(9), w(1), w(1)));
        asks("right and below", 499, words(13, 1, 1, 255, 255), o(31, g(9), w(1), w(1)));
        asks("right and above", 256, words(13, 1, 1, 255, 0), o(31, g(9), w(1), w(1)));
        asks("one ROOM further, at one point", 999, words(13, 1, 2, 5, 6), o(31, g(9), w(1), w(1)));
        asks("in ROOM 0", 999, words(13, 1, 0, 5, 6), o(31, g(9), w(1), w(1)));
        asks("also if it owns it", 999, words(18, 1, 12), o(31, g(9), w(12), w(1)));
    }

    private static void drawsLuck() {
        says("t what LUCK, without its sign's bit, leaves by v, if v is above 0, else 0. (LUCK is 1 at first.)");
        due("LUCK at first", house(BREAK).count(6), 1);
        for (int v : new int[] {LEAST, -1, 0, 1, 2, 3, 32767, MOST - 1, MOST}) {
            StageHouse house = house(o(32, g(9), g(10)), BREAK, o(2, j(0)));
            house.set(10, v);
            long luck = 1;
            for (int i = 0; i < 20; i++) {
                luck = luck * 1103515245L + 12345L & 0xffffffffL;
                house.tick(1);
                due("LUCK", house.count(6), (int) luck);
                due("32 by " + v, house.variable(9), v > 0 ? luck % (1L << 31) % v : 0);
            }
        }
        says("LUCK becomes LUCK * 1103515245 + 12345 (as ints go)");
        StageHouse house = house(o(32, g(9), w(5)), o(32, g(9), w(5)), BREAK);
        house.tick(1);
        due("LUCK", house.count(6), (int) (1103527590L * 1103515245L + 12345L));
        due("LUCK is below 0 then", house.count(6) < 0, true);
        due("what it leaves is not", house.variable(9) >= 0, true);
    }

    private static void chains() {
        says("33 v: the SLOT runs SCRIPT v from its beginning, LOCALS kept; END, if there is none.");
        StageHouse house = house(o(3, l(0), w(5)), o(3, l(3), w(-5)), words(33, 60));
        due("it runs at once", house.tick(1), 5);
        due("NOTE", house.note(0), 60);
        int[] slot = {60, 5, 0, 0, 0, 0, 5, 0, 0, -5};
        for (int what = 0; what <= 9; what++) {
            due("slot(0, " + what + ")", house.slot(0, what), slot[what]);
        }
        due("no other SLOT", house.count(1), 1);
        house = house(o(4, l(0), w(1)), o(8, l(0), w(3), j(19)), words(33, 1), CRASH, BREAK);
        due("itself, from its beginning", house.tick(1), 9);
        due("LOCALS kept", house.slot(0, 6), 3);
        house = house(words(33, 60));
        for (int i = 1; i < 8; i++) {
            house.start(2);
        }
        due("also with no SLOT free", house.tick(1), 10);
        due("SPILLED", house.count(5), 0);
    }

    private static void chainsToNone() {
        says("LOCALS kept; END, if there is none.");
        for (int s : new int[] {LEAST, -1, 0, 3, 59, 61, 256 + 2, MOST}) {
            StageHouse house = house(o(33, g(9)), note(1), BREAK);
            house.set(9, s);
            due("33 of " + s, house.tick(1), 1);
            isFree("33 of " + s, house, 0);
            due("CRASHES", house.count(4), 0);
            due("NOTES", house.count(3), 0);
        }
    }
}
