/** The edges of GROUND: Term 3, promises 16 (box), 17 (neighbours), 18 (way) and 19 (goal). */
public final class GroundEdgesTest extends Edges {
    public static void main(String[] args) {
        pointsOfABox();
        cornersOfTheGround();
        beside();
        beyondTheGround();
        itself();
        lowestOpenBox();
        boxAnswers();
        noSuchBox();
        noSuchNeighbours();
        longestWay();
        fewestBoxes();
        noWay();
        shutWays();
        goalsAtTheEdges();
        equalGoals();
        goalsOnlyWhereReached();
        noGoal();
        Check.finish();
    }

    private static StageHouse house(int... boxes) {
        return new Tale().room(1, boxes).house();
    }

    private static StageHouse houseWithActor(int x, int y, int... boxes) {
        return new Tale().room(1, boxes).actor(1, 1, x, y, 1).house();
    }

    private static void pointsOfABox() {
        says("a BOX has all of x0 .. x1, y0 .. y1");
        for (int x = 9; x <= 14; x++) {
            for (int y = 19; y <= 23; y++) {
                boolean within = x >= 10 && x <= 13 && y >= 20 && y <= 22;
                StageHouse house = houseWithActor(x, y, 10, 20, 13, 22, 0);
                due("the BOX at " + x + ", " + y, house.actor(1, 7), within ? 0 : -1);
            }
        }
        due("a BOX of one point", houseWithActor(7, 7, 7, 7, 7, 7, 0).actor(1, 7), 0);
        due("beside it", houseWithActor(8, 7, 7, 7, 7, 7, 0).actor(1, 7), -1);
        due("below it", houseWithActor(7, 8, 7, 7, 7, 7, 0).actor(1, 7), -1);
    }

    private static void cornersOfTheGround() {
        says("whole points x, y 0 .. 255 of a ROOM");
        int[][] corners = {{0, 0}, {255, 0}, {0, 255}, {255, 255}};
        for (int[] at : corners) {
            due("all of it", houseWithActor(at[0], at[1], 0, 0, 255, 255, 0).actor(1, 7), 0);
            StageHouse house = houseWithActor(at[0], at[1], at[0], at[1], at[0], at[1], 0);
            due("a BOX of that corner", house.actor(1, 7), 0);
            due("its GOAL from everywhere", house.goal(1, 128, 128), 256 * at[0] + at[1]);
        }
        due("all but the last", houseWithActor(255, 255, 0, 0, 254, 254, 0).actor(1, 7), -1);
        due("all but the first", houseWithActor(0, 0, 1, 1, 255, 255, 0).actor(1, 7), -1);
    }

    /** A BOX of 3 by 2 points is held against one of 2 by 3, wherever that may be. */
    private static void beside() {
        says("Two BOXES are NEIGHBOURS if a point of one is a point of the other, or right beside, above, below one.");
        for (int dx = -5; dx <= 6; dx++) {
            for (int dy = -6; dy <= 5; dy++) {
                int x0 = 20 + dx;
                int y0 = 20 + dy;
                StageHouse house = house(20, 20, 22, 21, 0, x0, y0, x0 + 1, y0 + 2, 0);
                int want = 0;
                for (int x = 20; x <= 22; x++) {
                    for (int y = 20; y <= 21; y++) {
                        for (int other = 0; other < 6; other++) {
                            int far = Math.abs(x - x0 - other % 2) + Math.abs(y - y0 - other / 2);
                            want = far <= 1 ? 1 : want;
                        }
                    }
                }
                due("neighbours by " + dx + ", " + dy, house.neighbours(1, 0, 1), want);
                due("the other way round", house.neighbours(1, 1, 0), want);
                due("a way of two, or none", house.way(1, 0, 1), want == 1 ? 2 : 0);
            }
        }
        due("corner to corner", house(0, 0, 4, 4, 0, 5, 5, 9, 9, 0).neighbours(1, 0, 1), 0);
        due("the other corners", house(5, 0, 9, 4, 0, 0, 5, 4, 9, 0).neighbours(1, 0, 1), 0);
        due("one within the other", house(0, 0, 9, 9, 0, 4, 4, 4, 4, 0).neighbours(1, 0, 1), 1);
        due("a cross", house(0, 4, 9, 4, 0, 4, 0, 4, 9, 0).neighbours(1, 0, 1), 1);
        due("one point between", house(0, 0, 4, 4, 0, 6, 0, 9, 4, 0).neighbours(1, 0, 1), 0);
    }

    private static void beyondTheGround() {
        says("whole points x, y 0 .. 255 of a ROOM");
        StageHouse house = house(0, 0, 0, 255, 0, 255, 0, 255, 255, 0, 10, 0, 20, 0, 0, 10, 255, 20, 255, 0);
        due("left and right end are not beside one another", house.neighbours(1, 0, 1), 0);
        due("nor are top and bottom", house.neighbours(1, 2, 3), 0);
        due("254 and 255", house(0, 0, 254, 0, 0, 255, 0, 255, 0, 0).neighbours(1, 0, 1), 1);
        due("0 and 1", house(5, 0, 5, 0, 0, 5, 1, 5, 1, 0).neighbours(1, 0, 1), 1);
    }

    private static void itself() {
        says("(1, 0; one with itself, too, SHUT or not)");
        StageHouse house = house(0, 0, 1, 1, 0, 0, 2, 1, 3, 1, 7, 7, 7, 7, 1);
        for (int b = 0; b < 3; b++) {
            due("with itself", house.neighbours(1, b, b), 1);
        }
        due("an open one with a SHUT one", house.neighbours(1, 0, 1), 1);
        due("a SHUT one with an open one", house.neighbours(1, 1, 0), 1);
        due("two SHUT ones apart", house.neighbours(1, 1, 2), 0);
    }

    private static void lowestOpenBox() {
        says("An ACTOR's BOX: the lowest open BOX of its ROOM that has its point; -1 without.");
        int[] all = times(16, new int[] {0, 0, 9, 9, 1});
        for (int open = -1; open < 16; open++) {
            int[] boxes = all.clone();
            if (open >= 0) {
                boxes[5 * open + 4] = 0;
            }
            due("BOX " + open + " is open", houseWithActor(5, 5, boxes).actor(1, 7), open);
        }
        due("two are open", houseWithActor(5, 5, 0, 0, 9, 9, 1, 0, 0, 9, 9, 0, 0, 0, 9, 9, 0).actor(1, 7), 1);
        due("the lower one has not its point", houseWithActor(5, 5, 0, 0, 4, 9, 0, 0, 0, 9, 9, 0).actor(1, 7), 1);
        due("a ROOM without BOXES", houseWithActor(5, 5).actor(1, 7), -1);
        StageHouse house = new Tale().room(1, 0, 0, 9, 9, 0).actor(1, 2, 5, 5, 1).actor(2, 0, 5, 5, 1).house();
        due("a ROOM that is not there", house.actor(1, 7), -1);
        due("ROOM 0", house.actor(2, 7), -1);
    }

    private static void boxAnswers() {
        says("Of BOX b of ROOM r, what 0 .. 3: x0, y0, x1, y1, 4: SHUT (1, 0).");
        int[] boxes = new int[80];
        for (int i = 0; i < 80; i++) {
            boxes[i] = i % 5 == 4 ? i / 5 % 2 : i % 5 < 2 ? i : 255 - i;
        }
        StageHouse house = new Tale().room(1, boxes).room(20, 0, 255, 0, 255, 1).house();
        for (int i = 0; i < 80; i++) {
            due("box(1, " + i / 5 + ", " + i % 5 + ")", house.box(1, i / 5, i % 5), boxes[i]);
        }
        int[] due = {0, 255, 0, 255, 1};
        for (int what = 0; what < 5; what++) {
            due("box(20, 0, " + what + ")", house.box(20, 0, what), due[what]);
        }
    }

    private static void noSuchBox() {
        says("NONE for no such BOX, another what.");
        StageHouse house = new Tale().room(1, times(16, new int[] {1, 1, 1, 1, 1})).room(2, 1, 1, 1, 1, 1).room(3).house();
        int[][] none = {{1, 16}, {1, -1}, {1, 32}, {1, LEAST}, {1, MOST}, {2, 1}, {2, -1}, {2, -16}, {3, 0}, {3, -1},
            {4, 0}, {0, 0}, {0, 16}, {20, 0}, {21, 0}, {-1, 0}, {-1, 32}, {LEAST, 0}, {MOST, 0}, {256 + 1, 0}};
        for (int[] asked : none) {
            for (int what = -1; what <= 5; what++) {
                due("box(" + asked[0] + ", " + asked[1] + ", " + what + ")", house.box(asked[0], asked[1], what), NONE);
            }
        }
        for (int what : new int[] {LEAST, -1, 5, 6, 256, MOST}) {
            due("box(1, 15, " + what + ")", house.box(1, 15, what), NONE);
        }
    }

    private static void noSuchNeighbours() {
        says("NONE if there is none such.");
        StageHouse house = new Tale().room(1, times(16, new int[] {1, 1, 1, 1, 0})).room(2, 1, 1, 1, 1, 0).room(3).house();
        int[][] none = {{1, 0, 16}, {1, 16, 0}, {1, 0, -1}, {1, -1, 0}, {1, 0, 32}, {1, 32, 0}, {1, 16, 16}, {2, 0, 1},
            {2, 1, 0}, {2, 1, 1}, {2, -1, -1}, {3, 0, 0}, {4, 0, 0}, {0, 0, 0}, {0, 16, 16}, {20, 0, 0}, {21, 0, 0},
            {-1, 0, 0}, {LEAST, 0, 0}, {MOST, 0, 0}, {1, LEAST, 0}, {1, 0, LEAST}, {1, MOST, 0}, {1, 0, MOST}};
        for (int[] asked : none) {
            due("neighbours", house.neighbours(asked[0], asked[1], asked[2]), NONE);
            due("way", house.way(asked[0], asked[1], asked[2]), NONE);
        }
        due("neighbours(1, 15, 0)", house.neighbours(1, 15, 0), 1);
        due("neighbours(1, 0, 15)", house.neighbours(1, 0, 15), 1);
    }

    private static int[] chain(int many) {
        int[] boxes = new int[5 * many];
        for (int i = 0; i < many; i++) {
            int[] box = {2 * i, 0, 2 * i + 1, 0, 0};
            System.arraycopy(box, 0, boxes, 5 * i, 5);
        }
        return boxes;
    }

    private static void longestWay() {
        says("how many BOXES, both with it");
        for (int many = 1; many <= 16; many++) {
            StageHouse house = house(chain(many));
            due("from the first to the last", house.way(1, 0, many - 1), many);
            due("and back", house.way(1, many - 1, 0), many);
            due("to itself", house.way(1, many - 1, many - 1), 1);
        }
    }

    private static void fewestBoxes() {
        says("On a way of fewest BOXES from open BOX b to open BOX c of ROOM r");
        // a ring of eight BOXES, each of one point, round a point that has none
        int[] ring = {0, 0, 0, 0, 0, 1, 0, 1, 0, 0, 2, 0, 2, 0, 0, 2, 1, 2, 1, 0, 2, 2, 2, 2, 0, 1, 2, 1, 2, 0, 0, 2, 0, 2,
            0, 0, 1, 0, 1, 0};
        StageHouse house = house(ring);
        for (int b = 0; b < 8; b++) {
            for (int c = 0; c < 8; c++) {
                int apart = Math.abs(b - c);
                due("way(1, " + b + ", " + c + ")", house.way(1, b, c), 1 + Math.min(apart, 8 - apart));
            }
        }
        ring[5 * 1 + 4] = 1;
        due("round the other way, where one is SHUT", house(ring).way(1, 0, 2), 7);
    }

    private static void noWay() {
        says("0 if there is no way");
        StageHouse house = house(0, 0, 1, 1, 0, 2, 2, 3, 3, 0, 9, 9, 9, 9, 0, 2, 0, 2, 1, 1);
        due("corner to corner", house.way(1, 0, 1), 0);
        due("far apart", house.way(1, 0, 2), 0);
        due("and back", house.way(1, 2, 0), 0);
        due("only through a SHUT one", house.way(1, 1, 0), 0);
    }

    private static void shutWays() {
        says("NONE if one is none such, or SHUT.");
        int[] boxes = chain(3);
        boxes[9] = 1;
        StageHouse house = new Tale().room(1, boxes).script(1, words(19, 1, 1, 0), words(19, 1, 2, 1), BREAK).house();
        due("from a SHUT one", house.way(1, 1, 0), NONE);
        due("to a SHUT one", house.way(1, 0, 1), NONE);
        due("a SHUT one to itself", house.way(1, 1, 1), NONE);
        due("through a SHUT one", house.way(1, 0, 2), 0);
        house.start(1);
        house.tick(1);
        due("from one that is open now", house.way(1, 1, 0), 2);
        due("to one that is SHUT now", house.way(1, 0, 2), NONE);
    }

    private static void goalsAtTheEdges() {
        says("256 * x' + y'");
        StageHouse house = houseWithActor(0, 0, 0, 0, 255, 255, 0);
        int[] edges = {0, 1, 127, 128, 254, 255};
        for (int x : edges) {
            for (int y : edges) {
                due("goal(1, " + x + ", " + y + ")", house.goal(1, x, y), 256 * x + y);
            }
        }
        house = houseWithActor(100, 100, 100, 100, 110, 120, 0);
        due("left above", house.goal(1, 0, 0), 256 * 100 + 100);
        due("right below", house.goal(1, 255, 255), 256 * 110 + 120);
        due("right above", house.goal(1, 255, 0), 256 * 110 + 100);
        due("left below", house.goal(1, 0, 255), 256 * 100 + 120);
        due("above", house.goal(1, 105, 0), 256 * 105 + 100);
        due("left", house.goal(1, 0, 105), 256 * 100 + 105);
        due("within", house.goal(1, 105, 105), 256 * 105 + 105);
        house = houseWithActor(255, 255, 255, 255, 255, 255, 0);
        due("as far as can be", house.goal(1, 0, 0), 65535);
    }

    private static void equalGoals() {
        says("of equal ones in the lowest BOX, there the least x', then y'; its BOX");
        // an arch: two pillars, 4 apart, under a beam
        due("the left pillar is lower", houseWithActor(0, 5, 0, 1, 1, 9, 0, 5, 1, 6, 9, 0, 0, 0, 6, 0, 0).goal(1, 3, 9),
            256 * 1 + 9);
        due("the right pillar is lower", houseWithActor(0, 5, 5, 1, 6, 9, 0, 0, 1, 1, 9, 0, 0, 0, 6, 0, 0).goal(1, 3, 9),
            256 * 5 + 9);
        due("a nearer one in a higher BOX", houseWithActor(0, 5, 5, 1, 6, 9, 0, 0, 1, 2, 9, 0, 0, 0, 6, 0, 0).goal(1, 3, 9),
            256 * 2 + 9);
        due("above and beside are equal", houseWithActor(0, 0, 0, 0, 9, 4, 0, 10, 0, 12, 1, 0).goal(1, 12, 4),
            256 * 9 + 4);
        due("3, 4 is as far as 5, 0", houseWithActor(0, 0, 0, 0, 0, 5, 0, 1, 0, 2, 1, 0).goal(1, 5, 5), 256 * 0 + 5);
        due("the other way round", houseWithActor(0, 0, 1, 0, 2, 1, 0, 0, 0, 0, 5, 0).goal(1, 5, 5), 256 * 2 + 1);
    }

    private static void goalsOnlyWhereReached() {
        says("NEIGHBOUR by NEIGHBOUR through open ones, are REACHED (it, too)");
        int[] boxes = chain(16);
        due("all sixteen", houseWithActor(0, 0, boxes).goal(1, 255, 0), 256 * 31);
        for (int shut = 1; shut < 16; shut++) {
            int[] some = boxes.clone();
            some[5 * shut + 4] = 1;
            due("BOX " + shut + " is SHUT", houseWithActor(0, 0, some).goal(1, 255, 0), 256 * (2 * shut - 1));
        }
        due("it alone", houseWithActor(0, 0, 0, 0, 1, 1, 0, 3, 0, 4, 1, 0).goal(1, 4, 1), 256 + 1);
        due("its own BOX is the lowest open one", houseWithActor(5, 5, 0, 0, 9, 9, 1, 5, 5, 5, 5, 0).goal(1, 0, 0),
            256 * 5 + 5);
    }

    private static void noGoal() {
        says("NONE without a BOX, or if there is no such ACTOR, or a number is not 0 .. 255.");
        StageHouse house = new Tale().room(1, 0, 0, 9, 9, 0, 20, 0, 29, 9, 1).actor(1, 1, 5, 5, 1).actor(2, 1, 15, 5, 1)
            .actor(3, 1, 25, 5, 1).actor(4, 0, 5, 5, 1).actor(12, 2, 5, 5, 1).house();
        for (int a : new int[] {2, 3, 4, 12}) {
            due("ACTOR " + a + " without a BOX", house.goal(a, 5, 5), NONE);
        }
        for (int a : new int[] {LEAST, -1, 0, 5, 11, 13, 256 + 1, MOST}) {
            due("no such ACTOR " + a, house.goal(a, 5, 5), NONE);
        }
        for (int n : new int[] {LEAST, -1, 256, 65536, 65536 + 5, MOST}) {
            due("x " + n, house.goal(1, n, 5), NONE);
            due("y " + n, house.goal(1, 5, n), NONE);
        }
        due("0, 255", house.goal(1, 0, 255), 9);
        due("255, 0", house.goal(1, 255, 0), 256 * 9);
        due("it does not walk for that", house.actor(1, 4), 0);
    }
}
