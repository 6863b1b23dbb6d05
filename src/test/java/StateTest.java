/** Promises 10 (set), 11 (variable), 14 (object), 15 (verb), 20 (note) and 22 (count). */
public final class StateTest {
    public static void main(String[] args) {
        setsVariables();
        tellsObjects();
        tellsVerbs();
        keepsTheLatestNotes();
        counts();
        Check.finish();
    }

    private static void setsVariables() {
        StageHouse house = new StageHouse();
        for (int i = 0; i < 64; i++) {
            Check.due("set(" + i + ")", house.set(i, 1000 + i), 0);
        }
        for (int i = 0; i < 64; i++) {
            Check.due("variable(" + i + ")", house.variable(i), 1000 + i);
        }
        Check.due("set(63, least)", house.set(63, Integer.MIN_VALUE), 1063);
        Check.due("set(63, most)", house.set(63, Integer.MAX_VALUE), Integer.MIN_VALUE);
        Check.due("variable(63)", house.variable(63), Integer.MAX_VALUE);
        for (int i : new int[] {-1, 64, Integer.MIN_VALUE, Integer.MAX_VALUE}) {
            Check.dueNoSuchElement("set(" + i + ", 1)", () -> house.set(i, 1));
            Check.dueNoSuchElement("variable(" + i + ")", () -> house.variable(i));
        }
    }

    private static void tellsObjects() {
        StageHouse house = new Tale().object(5, 20, 254, 3, 200, 9, 1, 8, 2, 7, 3).object(60, 0, 0, 0, 0)
            .house();
        int[] due = {20, 254, 3, 200, 0, 3};
        for (int what = 0; what < 6; what++) {
            Check.due("object(5, " + what + ")", house.object(5, what), due[what]);
            Check.due("object(60, " + what + ")", house.object(60, what), 0);
        }
        int[][] wrong = {{5, 6}, {5, -1}, {4, 0}, {0, 0}, {61, 0}, {-1, 0}, {Integer.MAX_VALUE, 0},
            {5, Integer.MIN_VALUE}};
        for (int[] asked : wrong) {
            Check.dueNoSuchElement("object(" + asked[0] + ", " + asked[1] + ")",
                () -> house.object(asked[0], asked[1]));
        }
    }

    private static void tellsVerbs() {
        StageHouse house = new Tale().object(5, 0, 0, 0, 0, 9, 1, 255, 60, 1, 9).object(6, 0, 0, 0, 0, 2, 3)
            .house();
        int[][] due = {{5, 9, 1}, {5, 255, 60}, {5, 1, 9}, {5, 60, 0}, {5, 2, 0}, {5, 0, 0}, {5, -1, 0},
            {5, 256, 0}, {6, 2, 3}, {6, 9, 0}, {6, 255, 0}, {7, 2, 0}, {0, 2, 0}, {61, 2, 0}, {-5, 9, 0}};
        for (int[] asked : due) {
            Check.due("verb(" + asked[0] + ", " + asked[1] + ")", house.verb(asked[0], asked[1]), asked[2]);
        }
    }

    private static void keepsTheLatestNotes() {
        int[] loop = Tale.join(Tale.order(4, Tale.global(9), Tale.word(1)), Tale.order(20, Tale.global(9)),
            Tale.raw(1), Tale.order(2, Tale.jump(0)));
        StageHouse house = new Tale().script(1, loop).house();
        house.start(1);
        for (int many = 1; many <= 140; many++) {
            house.tick(1);
            Check.due("NOTES in all", house.count(3), many);
            Check.due("note(0)", house.note(0), many);
            int oldest = Math.min(many, 64) - 1;
            Check.due("note(" + oldest + ")", house.note(oldest), many - oldest);
            Check.dueNoSuchElement("note(" + (oldest + 1) + ")", () -> house.note(oldest + 1));
        }
        Check.dueNoSuchElement("note(-1)", () -> house.note(-1));
        Check.dueNoSuchElement("note(least)", () -> house.note(Integer.MIN_VALUE));
        Check.dueNoSuchElement("note(most)", () -> house.note(Integer.MAX_VALUE));
        for (int i = 0; i < 64; i++) {
            Check.due("note(" + i + ")", house.note(i), 140 - i);
        }
    }

    private static void counts() {
        int[] code = Tale.join(Tale.order(20, Tale.word(1)), Tale.order(20, Tale.word(2)),
            Tale.order(32, Tale.global(9), Tale.word(5)), Tale.order(11, Tale.word(2)), Tale.raw(1));
        StageHouse house = new Tale().room(1).room(2).room(3).script(1, code).script(2, Tale.raw(99))
            .object(1, 0, 0, 0, 0).object(2, 0, 0, 0, 0).object(3, 0, 0, 0, 0).object(4, 0, 0, 0, 0)
            .actor(1, 0, 0, 0, 0).house();
        house.start(1);
        for (int i = 0; i < 8; i++) {
            house.say(0, 0, 0);
        }
        house.tick(1);
        house.feed(0, 0, 0, 0, 0);
        int[] due = {1, 1, 5, 2, 1, 2, 1103527590, 3, 2, 4, 1, 20};
        for (int what = 0; what < due.length; what++) {
            Check.due("count(" + what + ")", house.count(what), due[what]);
        }
        for (int what : new int[] {-1, 12, Integer.MIN_VALUE, Integer.MAX_VALUE}) {
            Check.due("count(" + what + ")", house.count(what), -1);
        }
    }
}
