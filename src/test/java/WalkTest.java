/** Promises 9 (walk) and 13 (actor): WALKING, STEP by STEP. */
public final class WalkTest {
    public static void main(String[] args) {
        tellsActors();
        refusesToWalk();
        walksByXThenY();
        walksAtItsSpeed();
        allActorsWalk();
        walksThroughTheLowestNextBox();
        walksByYWhereXIsNoGround();
        takesTheLowestBox();
        stopsWithoutABox();
        goesAsFarAsItCan();
        turnsToANewPoint();
        Check.finish();
    }

    private static void tellsActors() {
        StageHouse house = new Tale().room(2, 0, 0, 9, 9, 1, 0, 0, 9, 9, 0).actor(7, 2, 3, 4, 5)
            .actor(12, 20, 255, 255, 8).house();
        int[] due = {2, 3, 4, 5, 0, -1, -1, 1};
        int[] dueOther = {20, 255, 255, 8, 0, -1, -1, -1};
        for (int what = 0; what < 8; what++) {
            Check.due("actor(7, " + what + ")", house.actor(7, what), due[what]);
            Check.due("actor(12, " + what + ")", house.actor(12, what), dueOther[what]);
        }
        Check.due("walk(7, 0, 255)", house.walk(7, 0, 255), true);
        Check.due("it walks", house.actor(7, 4), 1);
        Check.due("to x", house.actor(7, 5), 0);
        Check.due("to y", house.actor(7, 6), 255);
        int[][] wrong = {{7, 8}, {7, -1}, {6, 0}, {0, 0}, {13, 0}, {-1, 0}, {Integer.MAX_VALUE, 7},
            {7, Integer.MIN_VALUE}};
        for (int[] asked : wrong) {
            Check.dueNoSuchElement("actor(" + asked[0] + ", " + asked[1] + ")",
                () -> house.actor(asked[0], asked[1]));
        }
    }

    private static void refusesToWalk() {
        StageHouse house = new Tale().room(1, 0, 0, 9, 9, 0).actor(1, 1, 3, 4, 5).house();
        int[][] wrong = {{0, 1, 1}, {2, 1, 1}, {13, 1, 1}, {-1, 1, 1}, {1, -1, 1}, {1, 256, 1}, {1, 1, -1},
            {1, 1, 256}, {Integer.MIN_VALUE, 1, 1}};
        for (int[] told : wrong) {
            Check.due("walk", house.walk(told[0], told[1], told[2]), false);
        }
        Check.due("it does not walk", house.actor(1, 4), 0);
        Check.due("where it is", house.walk(1, 3, 4), true);
        Check.due("it walks", house.actor(1, 4), 1);
        house.tick(1);
        Check.due("it walks no more", house.actor(1, 4), 0);
        Check.due("where to", house.actor(1, 5), -1);
        Check.due("where to", house.actor(1, 6), -1);
    }

    private static void at(StageHouse house, int x, int y, int walks) {
        Check.due("x", house.actor(1, 1), x);
        Check.due("y", house.actor(1, 2), y);
        Check.due("walks", house.actor(1, 4), walks);
    }

    private static void walksByXThenY() {
        StageHouse house = new Tale().room(1, 0, 0, 9, 9, 0).actor(1, 1, 5, 5, 1).house();
        house.walk(1, 3, 7);
        int[][] due = {{4, 5, 1}, {3, 5, 1}, {3, 6, 1}, {3, 7, 1}, {3, 7, 0}, {3, 7, 0}};
        for (int[] stands : due) {
            house.tick(1);
            at(house, stands[0], stands[1], stands[2]);
        }
        house.walk(1, 4, 6);
        house.tick(2);
        at(house, 4, 6, 1);
    }

    private static void walksAtItsSpeed() {
        StageHouse house = new Tale().room(1, 0, 0, 99, 9, 0).actor(1, 1, 0, 0, 8).actor(2, 1, 0, 0, 0).house();
        house.walk(1, 20, 0);
        house.walk(2, 20, 0);
        house.tick(1);
        at(house, 8, 0, 1);
        house.tick(1);
        at(house, 16, 0, 1);
        house.tick(1);
        at(house, 20, 0, 0);
        house.tick(50);
        Check.due("SPEED 0 stays", house.actor(2, 1), 0);
        Check.due("and walks", house.actor(2, 4), 1);
    }

    private static void allActorsWalk() {
        Tale tale = new Tale().room(1, 0, 0, 99, 9, 0);
        for (int a = 1; a <= 12; a++) {
            tale.actor(a, 1, 0, 0, a % 9);
        }
        StageHouse house = tale.house();
        for (int a = 1; a <= 12; a++) {
            house.walk(a, 90, 0);
        }
        house.tick(3);
        for (int a = 1; a <= 12; a++) {
            Check.due("x of " + a, house.actor(a, 1), 3 * (a % 9));
        }
    }

    private static void walksThroughTheLowestNextBox() {
        // 0 left, 3 right; 1 below and 2 above are both between
        StageHouse house = new Tale().room(1, 0, 0, 4, 20, 0, 5, 15, 9, 20, 0, 5, 0, 9, 5, 0, 10, 0, 14, 20, 0)
            .actor(1, 1, 2, 2, 1).house();
        house.walk(1, 12, 2);
        house.tick(2);
        at(house, 4, 2, 1);
        house.tick(1);
        at(house, 4, 3, 1);
        house.tick(12);
        at(house, 4, 15, 1);
        house.tick(1);
        at(house, 5, 15, 1);
        Check.due("in BOX 1", house.actor(1, 7), 1);
        house.tick(7);
        at(house, 12, 15, 1);
        house.tick(13);
        at(house, 12, 2, 1);
        house.tick(1);
        at(house, 12, 2, 0);
    }

    private static void walksByYWhereXIsNoGround() {
        // 1 is below 0 and reaches further to the right: x comes first, where it is on the ground
        StageHouse house = new Tale().room(1, 0, 0, 4, 4, 0, 4, 5, 9, 9, 0).actor(1, 1, 0, 0, 1).house();
        house.walk(1, 9, 9);
        house.tick(4);
        at(house, 4, 0, 1);
        house.tick(5);
        at(house, 4, 5, 1);
        house.tick(5);
        at(house, 9, 5, 1);
        // 1 begins right of 0, further down: to its nearest point x differs, but is no ground yet
        house = new Tale().room(1, 0, 0, 4, 9, 0, 5, 8, 9, 9, 0).actor(1, 1, 4, 0, 1).house();
        house.walk(1, 9, 9);
        house.tick(8);
        at(house, 4, 8, 1);
        house.tick(1);
        at(house, 5, 8, 1);
    }

    private static void takesTheLowestBox() {
        // the lowest open BOX is its own; the GOAL is a point of it, though BOX 0 was nearer by number
        StageHouse house = new Tale().room(1, 8, 0, 12, 4, 0, 0, 0, 9, 4, 0).actor(1, 1, 0, 0, 8).house();
        Check.due("BOX 1", house.actor(1, 7), 1);
        house.walk(1, 9, 4);
        house.tick(1);
        at(house, 8, 0, 1);
        Check.due("BOX 0 is lower", house.actor(1, 7), 0);
        house.tick(1);
        at(house, 9, 4, 0);
    }

    private static void stopsWithoutABox() {
        int[] shut = Tale.order(19, Tale.word(1), Tale.word(0), Tale.word(1));
        StageHouse house = new Tale().room(1, 0, 0, 9, 9, 0).actor(1, 1, 5, 5, 2).script(1, shut, Tale.raw(0))
            .actor(2, 1, 20, 20, 1).actor(3, 0, 1, 1, 1).house();
        house.walk(1, 0, 0);
        house.walk(2, 0, 0);
        house.walk(3, 0, 0);
        house.tick(1);
        at(house, 3, 5, 1);
        Check.due("outside: it walks no more", house.actor(2, 4), 0);
        Check.due("outside: x", house.actor(2, 1), 20);
        Check.due("ROOM 0: it walks no more", house.actor(3, 4), 0);
        house.start(1);
        house.tick(1);
        at(house, 3, 5, 0);
        Check.due("no BOX", house.actor(1, 7), -1);
    }

    private static void goesAsFarAsItCan() {
        StageHouse house = new Tale().room(1, 0, 0, 9, 9, 0, 20, 0, 29, 9, 0).actor(1, 1, 5, 5, 8).house();
        house.walk(1, 25, 200);
        house.tick(2);
        at(house, 9, 9, 0);
        house.walk(1, 255, 255);
        house.tick(1);
        at(house, 9, 9, 0);
    }

    private static void turnsToANewPoint() {
        StageHouse house = new Tale().room(1, 0, 0, 99, 9, 0).actor(1, 1, 50, 0, 1).house();
        house.walk(1, 99, 0);
        house.tick(3);
        house.walk(1, 0, 0);
        house.tick(2);
        at(house, 51, 0, 1);
    }
}
