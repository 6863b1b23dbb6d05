/** The edges of VALUES, TARGETS and JUMPS, and of what is reckoned with them (Term 2). */
public final class ValueEdgesTest extends Edges {
    public static void main(String[] args) {
        wordsOfCode();
        variablesOfCode();
        localsOfCode();
        kindsOfCode();
        anotherVariableOrLocal();
        variableTargets();
        localTargets();
        kindsOfTargets();
        jumps();
        farJumps();
        jumpsThatAreNotGone();
        reckonsAsIntsGo();
        dividesAndCuts();
        comparesInts();
        Check.finish();
    }

    /** SCRIPT 1 is started; behind its CODE there are bytes that are not of it. */
    private static StageHouse house(int[]... code) {
        StageHouse house = new Tale().script(1, code).script(2, times(20, BREAK)).house();
        house.start(1);
        return house;
    }

    private static void crashes(String told, int[]... code) {
        StageHouse house = house(code);
        due(told + ": tick(1)", house.tick(1), 0);
        due(told + ": CRASHES", house.count(4), 1);
        due(told + ": NOTES", house.count(3), 0);
        isFree(told, house, 0);
    }

    private static void wordsOfCode() {
        says("a WORD is one of -32768 .. 32767");
        for (int word : new int[] {-32768, -32767, -257, -256, -255, -129, -128, -1, 0, 1, 127, 128, 255, 256,
            32766, 32767}) {
            StageHouse house = house(note(word), BREAK);
            due("tick(1)", house.tick(1), 2);
            due("a WORD", house.note(0), word);
        }
    }

    private static void variablesOfCode() {
        says("1 and a VARIABLE's number 0 .. 63");
        for (int i = 0; i <= 255; i++) {
            if (i >= 64) {
                crashes("VARIABLE " + i, o(20, g(i)), BREAK);
                continue;
            }
            StageHouse house = house(o(20, g(i)), BREAK);
            house.set(i, i % 2 == 0 ? LEAST + i : MOST - i);
            due("tick(1)", house.tick(1), 2);
            due("VARIABLE " + i, house.note(0), i == 0 ? 1 : i % 2 == 0 ? LEAST + i : MOST - i);
        }
    }

    private static void localsOfCode() {
        says("2 and a LOCAL's 0 .. 3");
        for (int i = 0; i <= 255; i++) {
            if (i >= 4) {
                crashes("LOCAL " + i, o(20, l(i)), BREAK);
                continue;
            }
            StageHouse house = house(o(20, l(i)), o(3, l(i), w(70 + i)), o(20, l(i)), BREAK);
            due("tick(1)", house.tick(1), 4);
            due("LOCAL " + i + " at first", house.note(1), 0);
            due("LOCAL " + i, house.note(0), 70 + i);
        }
    }

    private static void kindsOfCode() {
        says("a byte above 2 for a VALUE");
        for (int kind = 3; kind <= 255; kind++) {
            crashes("a VALUE's byte " + kind, Tale.raw(20, kind, 0, 1), BREAK, BREAK);
        }
        crashes("a second VALUE's byte", Tale.raw(8, 0, 0, 0, 3, 0, 0, 0, 0), BREAK);
        crashes("a fourth VALUE's byte", o(13, w(1), w(1), w(1)), Tale.raw(3, 0, 1), BREAK);
    }

    private static void anotherVariableOrLocal() {
        says("another VARIABLE, LOCAL");
        for (int order = 3; order <= 7; order++) {
            crashes("VALUE of ORDER " + order, o(order, g(9), g(64)), BREAK);
            crashes("VALUE of ORDER " + order, o(order, g(9), l(4)), BREAK);
            crashes("TARGET of ORDER " + order, o(order, g(64), w(1)), BREAK);
            crashes("TARGET of ORDER " + order, o(order, l(4), w(1)), BREAK);
            crashes("TARGET of ORDER " + order, o(order, g(255), w(1)), BREAK);
            crashes("TARGET of ORDER " + order, o(order, l(255), w(1)), BREAK);
        }
        crashes("the second VALUE", o(8, w(0), g(64), j(0)), BREAK);
        crashes("the third VALUE", o(21, w(0), w(0), l(4)), BREAK);
    }

    private static void variableTargets() {
        says("A TARGET: a VARIABLE or LOCAL so told.");
        for (int i = 0; i <= 255; i++) {
            if (i >= 64) {
                crashes("TARGET VARIABLE " + i, o(3, g(i), w(7)), BREAK);
                continue;
            }
            StageHouse house = house(o(3, g(i), w(-7)), BREAK);
            due("tick(1)", house.tick(1), 2);
            for (int other = 1; other < 64; other++) {
                due("VARIABLE " + other + " by TARGET " + i, house.variable(other), other == i ? -7 : 0);
            }
            due("VARIABLE 0 by TARGET " + i, house.variable(0), i == 0 ? -7 : 1);
        }
    }

    private static void localTargets() {
        says("A TARGET: a VARIABLE or LOCAL so told.");
        for (int i = 0; i <= 255; i++) {
            if (i >= 4) {
                crashes("TARGET LOCAL " + i, o(3, l(i), w(7)), BREAK);
                continue;
            }
            StageHouse house = house(o(3, l(i), w(-7)), BREAK);
            due("tick(1)", house.tick(1), 2);
            for (int other = 0; other < 4; other++) {
                due("LOCAL " + other + " by TARGET " + i, house.slot(0, 6 + other), other == i ? -7 : 0);
            }
        }
    }

    private static void kindsOfTargets() {
        says("not 1 or 2 for a TARGET");
        for (int kind = 0; kind <= 255; kind++) {
            if (kind != 1 && kind != 2) {
                crashes("a TARGET's byte " + kind, Tale.raw(3, kind, 0, 0, 0, 1), BREAK, BREAK);
            }
        }
        for (int order : new int[] {3, 4, 5, 6, 7, 23, 24, 25, 26, 27, 28, 29, 30, 31, 32}) {
            crashes("ORDER " + order + ", TARGET 0", o(order, Tale.raw(0, 9), w(1), w(1)), BREAK);
            crashes("ORDER " + order + ", TARGET 3", o(order, Tale.raw(3, 0), w(1), w(1)), BREAK);
            crashes("ORDER " + order + ", VARIABLE 64", o(order, g(64), w(1), w(1)), BREAK);
            crashes("ORDER " + order + ", LOCAL 4", o(order, l(4), w(1), w(1)), BREAK);
        }
    }

    private static void jumps() {
        says("A JUMP: a COUNT, a PLACE in the CODE (below its length).");
        int[] code = Tale.join(o(2, j(0)), BREAK, BREAK);
        StageHouse house = house(code);
        due("to PLACE 0", house.tick(1), 300);
        for (int to = 3; to <= 4; to++) {
            house = house(o(2, j(to)), BREAK, BREAK);
            due("to PLACE " + to, house.tick(1), 2);
            due("PLACE then", house.slot(0, 1), to + 1);
        }
        says("a JUMP beyond");
        for (int to : new int[] {5, 6, 7, 254, 255, 256, 257, 260, 261, 32767, 32768, 65535}) {
            crashes("to PLACE " + to + " of 5", o(2, j(to)), BREAK, BREAK);
        }
        house = house(o(2, j(1)), BREAK);
        due("into its own bytes, where END is told", house.tick(1), 2);
        due("CRASHES", house.count(4), 0);
        due("running", house.count(1), 0);
    }

    private static void farJumps() {
        says("A JUMP: a COUNT, a PLACE in the CODE (below its length).");
        for (int length : new int[] {255, 256, 257, 258, 511, 512, 5900}) {
            int[] code = Tale.join(o(2, j(length - 1)), times(length - 3, BREAK));
            StageHouse house = house(code);
            due("to the last PLACE of " + length, house.tick(1), 2);
            due("PLACE then", house.slot(0, 1), length);
            crashes("to PLACE " + length + " of " + length, o(2, j(length)), times(length - 3, BREAK));
        }
    }

    private static void jumpsThatAreNotGone() {
        says("(All VALUES, TARGETS, JUMPS are read first, in order; then what they tell is asked.)");
        crashes("8, not gone, beyond", o(8, w(1), w(2), j(10)), BREAK);
        crashes("9, not gone, beyond", o(9, w(2), w(1), j(65535)), BREAK);
        StageHouse house = house(o(8, w(1), w(2), j(9)), BREAK);
        due("8, not gone, to the last PLACE", house.tick(1), 2);
        due("CRASHES", house.count(4), 0);
    }

    private static void reckons(int order, int was, int by, int want) {
        StageHouse house = house(o(order, g(9), g(10)), BREAK);
        house.set(9, was);
        house.set(10, by);
        due("tick(1)", house.tick(1), 2);
        due("ORDER " + order + ": " + was + ", " + by, house.variable(9), want);
        due("what it is reckoned with stays", house.variable(10), by);
    }

    private static void reckonsAsIntsGo() {
        says("4 t v: t and v. 5 t v: t less v. 6 t v: t times v (all as ints go).");
        reckons(4, MOST, 1, LEAST);
        reckons(4, LEAST, -1, MOST);
        reckons(4, LEAST, LEAST, 0);
        reckons(4, MOST, MOST, -2);
        reckons(5, LEAST, 1, MOST);
        reckons(5, MOST, -1, LEAST);
        reckons(5, 0, LEAST, LEAST);
        reckons(5, LEAST, LEAST, 0);
        reckons(5, -1, LEAST, MOST);
        reckons(6, MOST, MOST, 1);
        reckons(6, LEAST, -1, LEAST);
        reckons(6, LEAST, 2, 0);
        reckons(6, 65536, 65536, 0);
        reckons(6, 65536, 32768, LEAST);
        reckons(6, 46341, 46341, -2147479015);
        reckons(6, LEAST, 0, 0);
        StageHouse house = house(o(4, l(0), g(9)), o(4, l(0), g(9)), o(20, l(0)), BREAK);
        house.set(9, MOST);
        house.tick(1);
        due("a LOCAL goes as ints go, too", house.note(0), -2);
    }

    private static void dividesAndCuts() {
        says("7 t v: t by v, cut.");
        int[][] due = {{7, 2, 3}, {-7, 2, -3}, {7, -2, -3}, {-7, -2, 3}, {1, 2, 0}, {-1, 2, 0}, {0, 5, 0},
            {LEAST, -1, LEAST}, {LEAST, 1, LEAST}, {MOST, -1, -MOST}, {MOST, LEAST, 0}, {LEAST, MOST, -1},
            {LEAST, LEAST, 1}, {LEAST, 2, -1073741824}};
        for (int[] row : due) {
            reckons(7, row[0], row[1], row[2]);
        }
        says("7 by 0");
        for (int was : new int[] {0, 1, -1, MOST, LEAST}) {
            StageHouse house = house(o(7, g(9), g(10)), note(1));
            house.set(9, was);
            due("tick(1)", house.tick(1), 0);
            due("CRASHES", house.count(4), 1);
            due("VARIABLE 9 stays", house.variable(9), was);
        }
        crashes("a LOCAL by itself, which is 0", o(7, l(0), l(0)), BREAK);
    }

    private static void compares(int order, int v, int w, boolean goes) {
        StageHouse house = house(o(order, g(9), g(10), j(11)), note(1), BREAK);
        house.set(9, v);
        house.set(10, w);
        due("ORDER " + order + ": " + v + ", " + w, house.tick(1), goes ? 2 : 3);
        due("NOTES", house.count(3), goes ? 0 : 1);
        due("CRASHES", house.count(4), 0);
    }

    private static void comparesInts() {
        int[] edges = {LEAST, LEAST + 1, -1, 0, 1, MOST - 1, MOST};
        for (int i = 0; i < edges.length; i++) {
            for (int k = 0; k < edges.length; k++) {
                says("8 v w j: goes there if v is w.");
                compares(8, edges[i], edges[k], i == k);
                says("9 v w j: if v is below w.");
                compares(9, edges[i], edges[k], i < k);
            }
        }
    }
}
