/** The edges of WALKING: Term 3, promises 9 (walk) and 13 (actor). */
public final class WalkEdgesTest extends Edges {
    public static void main(String[] args) {
        refusedWalks();
        walksThereIfItIsThere();
        aStepToSeeThatItIsThere();
        noStepsAndEight();
        stopsWithoutABox();
        stopsWhenItsBoxShuts();
        stopsAtAShutBox();
        fromCornerToCorner();
        ownBoxHasTheGoal();
        goalsLowestBox();
        lowestNextBox();
        toTheNearestPointOfTheNext();
        byYWhereXIsNoGround();
        throughOnePoint();
        inAnotherBoxThen();
        allTwelve();
        actorAnswers();
        refusedActors();
        Check.finish();
    }

    private static StageHouse house(int x, int y, int speed, int... boxes) {
        return new Tale().room(1, boxes).actor(1, 1, x, y, speed).house();
    }

    private static void goes(String told, StageHouse house, int[]... points) {
        for (int[] point : points) {
            house.tick(1);
            stands(told, house, 1, point[0], point[1], 1);
        }
    }

    private static void refusedWalks() {
        says("false if there is no such ACTOR, or a number is not 0 .. 255");
        StageHouse house = house(5, 5, 1, 0, 0, 9, 9, 0);
        due("walk(1, 0, 255)", house.walk(1, 0, 255), true);
        String was = look(house);
        for (int a : new int[] {LEAST, -1, 0, 2, 12, 13, 256 + 1, 65536 + 1, MOST}) {
            due("walk(" + a + ", 1, 1)", house.walk(a, 1, 1), false);
        }
        for (int n : new int[] {LEAST, -1, 256, 65536, 65536 + 1, MOST}) {
            due("walk(1, " + n + ", 1)", house.walk(1, n, 1), false);
            due("walk(1, 1, " + n + ")", house.walk(1, 1, n), false);
        }
        same("it walks where it walked", look(house), was);
        due("walk(1, 255, 0)", house.walk(1, 255, 0), true);
        due("to x", house.actor(1, 5), 255);
        due("to y", house.actor(1, 6), 0);
        due("a new house", new StageHouse().walk(1, 1, 1), false);
    }

    private static void walksThereIfItIsThere() {
        says("as told it walks (also if it is there)");
        StageHouse house = house(5, 5, 1, 0, 0, 9, 9, 0);
        due("walk", house.walk(1, 5, 5), true);
        stands("before a TICK", house, 1, 5, 5, 1);
        due("to x", house.actor(1, 5), 5);
        house.tick(1);
        stands("behind it", house, 1, 5, 5, 0);
        due("to x", house.actor(1, 5), NONE);
        house = new Tale().actor(1, 0, 5, 5, 0).house();
        due("in ROOM 0", house.walk(1, 9, 9), true);
        due("it walks", house.actor(1, 4), 1);
    }

    private static void aStepToSeeThatItIsThere() {
        says("It is there: it walks no more.");
        StageHouse house = house(0, 0, 1, 0, 0, 9, 0, 0);
        house.walk(1, 2, 0);
        goes("on its way", house, new int[] {1, 0}, new int[] {2, 0});
        house.tick(1);
        stands("a STEP later", house, 1, 2, 0, 0);
        house = house(0, 0, 2, 0, 0, 9, 0, 0);
        house.walk(1, 2, 0);
        house.tick(1);
        stands("two STEPS take it there", house, 1, 2, 0, 1);
        house = house(0, 0, 3, 0, 0, 9, 0, 0);
        house.walk(1, 2, 0);
        house.tick(1);
        stands("the third one ends it", house, 1, 2, 0, 0);
    }

    private static void noStepsAndEight() {
        says("each SPEED STEPS");
        for (int speed = 0; speed <= 8; speed++) {
            StageHouse house = house(0, 0, speed, 0, 0, 255, 0, 0);
            house.walk(1, 255, 0);
            house.tick(1);
            stands("SPEED " + speed, house, 1, speed, 0, 1);
            house.tick(9);
            stands("SPEED " + speed + ", ten TICKS", house, 1, 10 * speed, 0, 1);
        }
        StageHouse house = house(3, 3, 0, 0, 0, 0, 0, 0);
        house.walk(1, 0, 0);
        house.tick(200);
        stands("SPEED 0: no STEP sees that it has no BOX", house, 1, 3, 3, 1);
    }

    private static void stopsWithoutABox() {
        says("A STEP: without a BOX it walks no more.");
        int[][] boxes = {{}, {0, 0, 4, 4, 0}, {0, 0, 9, 9, 1}, {6, 5, 9, 9, 0}};
        for (int[] some : boxes) {
            StageHouse house = house(5, 5, 1, some);
            house.walk(1, 0, 0);
            house.tick(1);
            stands("without a BOX", house, 1, 5, 5, 0);
            due("to x", house.actor(1, 5), NONE);
            due("to y", house.actor(1, 6), NONE);
        }
        StageHouse house = new Tale().room(1, 0, 0, 9, 9, 0).actor(1, 2, 5, 5, 1).actor(2, 0, 5, 5, 1).house();
        house.walk(1, 0, 0);
        house.walk(2, 0, 0);
        house.tick(1);
        stands("a ROOM that is not there", house, 1, 5, 5, 0);
        stands("ROOM 0", house, 2, 5, 5, 0);
    }

    private static void stopsWhenItsBoxShuts() {
        says("A STEP: without a BOX it walks no more.");
        StageHouse house = new Tale().room(1, 0, 0, 9, 0, 0).actor(1, 1, 0, 0, 1).script(1, words(19, 1, 0, 1), END)
            .script(2, words(19, 1, 0, 0), END).house();
        house.walk(1, 9, 0);
        house.tick(2);
        house.start(1);
        house.tick(1);
        stands("its BOX is SHUT", house, 1, 2, 0, 0);
        due("its BOX", house.actor(1, 7), -1);
        house.start(2);
        house.tick(2);
        stands("open again: it walks no more", house, 1, 2, 0, 0);
        due("its BOX", house.actor(1, 7), 0);
    }

    private static void stopsAtAShutBox() {
        says("GOAL: of all points of REACHED BOXES the one with the least (x - x')^2 + (y - y')^2");
        StageHouse house = new Tale().room(1, 0, 0, 4, 0, 0, 5, 0, 9, 0, 1).actor(1, 1, 0, 0, 8)
            .script(1, words(19, 1, 1, 0), END).house();
        house.walk(1, 9, 0);
        house.tick(1);
        stands("as far as it can", house, 1, 4, 0, 0);
        house.start(1);
        house.tick(1);
        stands("it does not go on by itself", house, 1, 4, 0, 0);
        house.walk(1, 9, 0);
        house.tick(1);
        stands("told again", house, 1, 9, 0, 0);
    }

    private static void fromCornerToCorner() {
        says("One point: by x, if x differs, and the point so come to is in its own BOX, or that next one; else by y.");
        int[][] corners = {{0, 0}, {255, 0}, {0, 255}, {255, 255}};
        for (int[] from : corners) {
            for (int[] to : corners) {
                StageHouse house = house(from[0], from[1], 8, 0, 0, 255, 255, 0);
                house.walk(1, to[0], to[1]);
                int steps = Math.abs(from[0] - to[0]) + Math.abs(from[1] - to[1]);
                house.tick(steps / 8);
                stands("nearly there", house, 1, from[0] != to[0] && steps == 255 ? Math.abs(to[0] - 7) : to[0],
                    from[1] != to[1] ? Math.abs(to[1] - (steps == 255 ? 7 : 6)) : to[1], 1);
                house.tick(2);
                stands("there", house, 1, to[0], to[1], 0);
            }
        }
    }

    private static void ownBoxHasTheGoal() {
        says("Else, if its own BOX has the GOAL, to that");
        // the GOAL is in BOX 0, too, and that is lower; its own BOX 1 has it all the same
        StageHouse house = house(0, 4, 1, 8, 0, 9, 9, 0, 0, 4, 9, 9, 0);
        house.walk(1, 9, 9);
        due("its BOX", house.actor(1, 7), 1);
        goes("straight on", house, new int[] {1, 4}, new int[] {2, 4}, new int[] {3, 4});
        house.tick(5);
        stands("in BOX 0", house, 1, 8, 4, 1);
        due("its BOX", house.actor(1, 7), 0);
        house.tick(7);
        stands("there", house, 1, 9, 9, 0);
    }

    private static void goalsLowestBox() {
        says("of equal ones in the lowest BOX");
        // 2 is its own; 15, 9 is a point of 0 and of 3; 3 is right beside, but the GOAL's BOX is 0, through 1
        StageHouse house = house(5, 15, 1, 11, 0, 20, 9, 0, 0, 5, 10, 9, 0, 0, 10, 10, 20, 0, 11, 9, 20, 20, 0);
        due("the GOAL", house.goal(1, 15, 9), 256 * 15 + 9);
        due("from 2 to 0", house.way(1, 2, 0), 3);
        due("from 2 to 3", house.way(1, 2, 3), 2);
        house.walk(1, 15, 9);
        goes("through BOX 1", house, new int[] {5, 14}, new int[] {5, 13}, new int[] {5, 12}, new int[] {5, 11},
            new int[] {5, 10}, new int[] {5, 9}, new int[] {6, 9});
        house.tick(10);
        stands("there", house, 1, 15, 9, 0);
    }

    private static void lowestNextBox() {
        says("of all BOXES next on a way of fewest BOXES from its own to the GOAL's BOX the lowest one");
        int[] left = {0, 0, 2, 10, 0};
        int[] upper = {3, 0, 5, 2, 0};
        int[] lower = {3, 8, 5, 10, 0};
        int[] right = {6, 0, 8, 10, 0};
        StageHouse house = house(2, 5, 1, Tale.join(left, upper, lower, right));
        house.walk(1, 8, 5);
        goes("the upper one is lower by number", house, new int[] {2, 4}, new int[] {2, 3}, new int[] {2, 2},
            new int[] {3, 2});
        house = house(2, 5, 1, Tale.join(lower, upper, right, left));
        house.walk(1, 8, 5);
        goes("now it is the other", house, new int[] {2, 6}, new int[] {2, 7}, new int[] {2, 8}, new int[] {3, 8});
        lower[4] = 1;
        house = house(2, 5, 1, Tale.join(lower, upper, right, left));
        house.walk(1, 8, 5);
        goes("that one is SHUT", house, new int[] {2, 4});
        right[3] = 9;
        int[] around = {0, 11, 9, 11, 0, 9, 0, 9, 10, 0};
        house = house(2, 5, 1, Tale.join(around, left, upper, right));
        house.walk(1, 8, 5);
        due("the way through BOX 0 would be longer", house.way(1, 0, 4), 3);
        goes("a lower one on a longer way", house, new int[] {2, 4});
    }

    private static void toTheNearestPointOfTheNext() {
        says("to the point x', y' of that with the least |x - x'|, and the least |y - y'| (x, y where the ACTOR is)");
        // the next BOX lies below, from x 6 on: by x to 6 first, then by y; not towards the GOAL's x 0
        StageHouse house = house(4, 3, 1, 0, 0, 9, 4, 0, 6, 5, 9, 9, 0, 0, 10, 9, 14, 0);
        house.walk(1, 0, 12);
        goes("to x 6", house, new int[] {5, 3}, new int[] {6, 3}, new int[] {6, 4}, new int[] {6, 5});
        goes("then to the last BOX", house, new int[] {6, 6}, new int[] {6, 7}, new int[] {6, 8}, new int[] {6, 9},
            new int[] {6, 10});
        goes("then to the GOAL", house, new int[] {5, 10}, new int[] {4, 10});
        // the next BOX lies above, up to x 3: from the right side to 3
        house = house(5, 6, 1, 0, 5, 9, 9, 0, 0, 0, 3, 4, 0);
        house.walk(1, 0, 0);
        goes("to x 3", house, new int[] {4, 6}, new int[] {3, 6}, new int[] {3, 5}, new int[] {3, 4});
    }

    private static void byYWhereXIsNoGround() {
        says("by x, if x differs, and the point so come to is in its own BOX, or that next one; else by y.");
        // the next BOX is right beside, further down
        StageHouse house = house(4, 0, 1, 0, 0, 4, 9, 0, 5, 3, 9, 9, 0);
        house.walk(1, 9, 3);
        goes("down, then right", house, new int[] {4, 1}, new int[] {4, 2}, new int[] {4, 3}, new int[] {5, 3});
        // further up, to the left
        house = house(5, 9, 1, 5, 0, 9, 9, 0, 0, 0, 4, 6, 0);
        house.walk(1, 0, 0);
        goes("up, then left", house, new int[] {5, 8}, new int[] {5, 7}, new int[] {5, 6}, new int[] {4, 6});
        // a third BOX would be ground for x, but is neither its own nor next
        house = house(4, 5, 1, 0, 0, 4, 9, 0, 5, 8, 9, 9, 0, 5, 4, 6, 6, 0);
        house.walk(1, 9, 9);
        due("the third is no way", house.way(1, 2, 1), 3);
        goes("not over the third", house, new int[] {4, 6}, new int[] {4, 7}, new int[] {4, 8}, new int[] {5, 8});
    }

    private static void throughOnePoint() {
        says("or right beside, above, below one");
        StageHouse house = house(0, 0, 1, 0, 0, 2, 2, 0, 3, 1, 3, 1, 0, 4, 0, 6, 2, 0);
        house.walk(1, 6, 2);
        goes("through a BOX of one point", house, new int[] {1, 0}, new int[] {2, 0}, new int[] {2, 1}, new int[] {3, 1},
            new int[] {4, 1}, new int[] {5, 1}, new int[] {6, 1}, new int[] {6, 2});
        house = house(0, 0, 1, 0, 0, 2, 2, 0, 3, 3, 5, 5, 0);
        house.walk(1, 5, 5);
        house.tick(9);
        stands("not from corner to corner", house, 1, 2, 2, 0);
    }

    private static void inAnotherBoxThen() {
        says("(It is in another BOX then, perhaps.)");
        // BOX 0 lies across its way: once there, that is its own BOX, and its way is another
        StageHouse house = house(0, 5, 1, 3, 0, 3, 9, 0, 0, 5, 9, 5, 0, 3, 10, 9, 10, 0);
        house.walk(1, 9, 10);
        due("its BOX", house.actor(1, 7), 1);
        goes("to BOX 0", house, new int[] {1, 5}, new int[] {2, 5}, new int[] {3, 5});
        due("its BOX", house.actor(1, 7), 0);
        goes("down in it", house, new int[] {3, 6}, new int[] {3, 7}, new int[] {3, 8}, new int[] {3, 9}, new int[] {3, 10},
            new int[] {4, 10});
        due("its BOX", house.actor(1, 7), 2);
        house.tick(6);
        stands("there", house, 1, 9, 10, 0);
    }

    private static void allTwelve() {
        says("Then ACTORS 1 .. 12 that walk");
        Tale tale = new Tale().room(1, 0, 0, 255, 255, 0);
        for (int a = 1; a <= 12; a++) {
            tale.actor(a, 1, 10 * a, a, 1);
        }
        StageHouse house = tale.house();
        for (int a = 1; a <= 12; a += 2) {
            house.walk(a, 255, 255);
        }
        house.tick(3);
        for (int a = 1; a <= 12; a++) {
            stands("three TICKS", house, a, 10 * a + 3 * (a % 2), a, a % 2);
        }
        house.walk(12, 0, 12);
        house.tick(1);
        stands("the last one", house, 12, 119, 12, 1);
    }

    private static void actorAnswers() {
        says("4: whether it walks (1, 0), 5, 6: where to (NONE if it does not walk), 7: its BOX (-1)");
        StageHouse house = new Tale().room(20, 255, 0, 255, 0, 0).actor(12, 20, 255, 0, 8).actor(1, 0, 0, 255, 0).house();
        int[] last = {20, 255, 0, 8, 0, NONE, NONE, 0};
        int[] first = {0, 0, 255, 0, 0, NONE, NONE, -1};
        for (int what = 0; what <= 7; what++) {
            due("actor(12, " + what + ")", house.actor(12, what), last[what]);
            due("actor(1, " + what + ")", house.actor(1, what), first[what]);
        }
        house.walk(12, 0, 255);
        due("it walks", house.actor(12, 4), 1);
        due("to x 0", house.actor(12, 5), 0);
        due("to y 255", house.actor(12, 6), 255);
        house.tick(1);
        due("its only point is the GOAL", house.actor(12, 4), 0);
        due("to x", house.actor(12, 5), NONE);
        due("to y", house.actor(12, 6), NONE);
    }

    private static void refusedActors() {
        says("NoSuchElementException: no such ACTOR, another what.");
        StageHouse house = house(5, 5, 1, 0, 0, 9, 9, 0);
        for (int a : new int[] {LEAST, -1, 0, 2, 12, 13, 256 + 1, MOST}) {
            for (int what = -1; what <= 8; what++) {
                int asked = what;
                Check.dueNoSuchElement("actor(" + a + ", " + what + ")", () -> house.actor(a, asked));
            }
        }
        for (int what : new int[] {LEAST, -1, 8, 9, 256, MOST}) {
            Check.dueNoSuchElement("actor(1, " + what + ")", () -> house.actor(1, what));
        }
    }
}
