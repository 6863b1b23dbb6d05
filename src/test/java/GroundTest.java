import java.util.ArrayList;
import java.util.List;

/** Promises 16 (box), 17 (neighbours), 18 (way) and 19 (goal), also against a search of all points. */
public final class GroundTest {
    public static void main(String[] args) {
        tellsBoxes();
        tellsNeighbours();
        tellsWays();
        tellsGoals();
        shutBoxesHaveNoWay();
        agreesWithAllPoints();
        Check.finish();
    }

    private static void tellsBoxes() {
        StageHouse house = new Tale().room(1).room(20, 1, 2, 3, 4, 1, 0, 0, 255, 255, 0).house();
        int[][] due = {{1, 2, 3, 4, 1}, {0, 0, 255, 255, 0}};
        for (int b = 0; b < 2; b++) {
            for (int what = 0; what < 5; what++) {
                Check.due("box(20, " + b + ", " + what + ")", house.box(20, b, what), due[b][what]);
            }
        }
        int[][] none = {{20, 2, 0}, {20, -1, 0}, {20, 0, 5}, {20, 0, -1}, {1, 0, 0}, {2, 0, 0}, {0, 0, 0},
            {21, 0, 0}, {-1, 0, 0}, {20, 16, 4}, {19, 16, 4}, {1, 0, 4}, {Integer.MAX_VALUE, 0, 0},
            {20, Integer.MIN_VALUE, 4}, {20, 0, Integer.MAX_VALUE}};
        for (int[] asked : none) {
            Check.due("box of none such", house.box(asked[0], asked[1], asked[2]), -1);
        }
    }

    private static void tellsNeighbours() {
        // 0 in the midst; 1 right beside, 2 below, 3 at a corner, 4 one point away, 5 within, 6 SHUT beside
        StageHouse house = new Tale().room(3, 10, 10, 20, 20, 0, 21, 20, 30, 30, 0, 15, 21, 15, 30, 0,
            21, 21, 22, 22, 0, 22, 10, 25, 12, 0, 12, 12, 13, 13, 0, 5, 5, 9, 10, 1).house();
        int[] withFirst = {1, 1, 1, 0, 0, 1, 1};
        for (int c = 0; c < 7; c++) {
            Check.due("neighbours(3, 0, " + c + ")", house.neighbours(3, 0, c), withFirst[c]);
            Check.due("neighbours(3, " + c + ", 0)", house.neighbours(3, c, 0), withFirst[c]);
            Check.due("one with itself", house.neighbours(3, c, c), 1);
        }
        Check.due("neighbours(3, 0, 7)", house.neighbours(3, 0, 7), -1);
        Check.due("neighbours(3, 7, 0)", house.neighbours(3, 7, 0), -1);
        Check.due("neighbours(3, -1, 0)", house.neighbours(3, -1, 0), -1);
        Check.due("neighbours(2, 0, 0)", house.neighbours(2, 0, 0), -1);
        Check.due("neighbours(0, 0, 0)", house.neighbours(0, 0, 0), -1);
        Check.due("neighbours(21, 0, 0)", house.neighbours(21, 0, 0), -1);
    }

    /** A row of 16 BOXES, each right beside the one before. */
    private static int[] chain() {
        int[] boxes = new int[80];
        for (int i = 0; i < 16; i++) {
            int[] box = {2 * i, 0, 2 * i + 1, 1, 0};
            System.arraycopy(box, 0, boxes, 5 * i, 5);
        }
        return boxes;
    }

    private static void tellsWays() {
        StageHouse house = new Tale().room(1, chain()).room(2, 0, 0, 1, 1, 0, 5, 5, 6, 6, 0, 2, 0, 2, 0, 1)
            .house();
        for (int b = 0; b < 16; b++) {
            for (int c = 0; c < 16; c++) {
                Check.due("way(1, " + b + ", " + c + ")", house.way(1, b, c), Math.abs(b - c) + 1);
            }
        }
        Check.due("no way", house.way(2, 0, 1), 0);
        Check.due("from a SHUT one", house.way(2, 2, 0), -1);
        Check.due("to a SHUT one", house.way(2, 0, 2), -1);
        Check.due("a SHUT one to itself", house.way(2, 2, 2), -1);
        Check.due("none such", house.way(2, 0, 3), -1);
        Check.due("none such", house.way(2, 3, 0), -1);
        Check.due("none such", house.way(2, -1, 0), -1);
        Check.due("no such ROOM", house.way(3, 0, 0), -1);
        Check.due("no such ROOM", house.way(0, 0, 0), -1);
        Check.due("no such ROOM", house.way(21, 0, 0), -1);
    }

    private static void tellsGoals() {
        // 0: a bar, 1: a bar below it that is not reached, 2: beside 0
        StageHouse house = new Tale().room(1, 0, 0, 10, 4, 0, 0, 9, 10, 12, 0, 11, 0, 20, 2, 0)
            .actor(1, 1, 3, 3, 0).actor(2, 1, 3, 10, 0).actor(3, 1, 3, 7, 0).actor(4, 0, 3, 3, 0)
            .actor(5, 9, 3, 3, 0).house();
        Check.due("in its BOX", house.goal(1, 7, 1), 256 * 7 + 1);
        Check.due("in a reached one", house.goal(1, 15, 2), 256 * 15 + 2);
        Check.due("not in one that is not reached", house.goal(1, 5, 10), 256 * 5 + 4);
        Check.due("the same for another", house.goal(2, 5, 1), 256 * 5 + 9);
        Check.due("equal ones: the lowest BOX", house.goal(1, 12, 4), 256 * 10 + 4);
        Check.due("beyond", house.goal(1, 255, 255), 256 * 20 + 2);
        Check.due("without a BOX", house.goal(3, 1, 1), -1);
        Check.due("in ROOM 0", house.goal(4, 1, 1), -1);
        Check.due("in no such ROOM", house.goal(5, 1, 1), -1);
        Check.due("no such ACTOR", house.goal(6, 1, 1), -1);
        Check.due("no such ACTOR", house.goal(0, 1, 1), -1);
        Check.due("no such ACTOR", house.goal(13, 1, 1), -1);
        Check.due("x -1", house.goal(1, -1, 1), -1);
        Check.due("x 256", house.goal(1, 256, 1), -1);
        Check.due("y -1", house.goal(1, 1, -1), -1);
        Check.due("y 256", house.goal(1, 1, 256), -1);
        Check.due("it does not walk", house.actor(1, 4), 0);
    }

    private static void shutBoxesHaveNoWay() {
        int[] shut = Tale.order(19, Tale.word(1), Tale.word(8), Tale.word(1));
        int[] open = Tale.order(19, Tale.word(1), Tale.word(8), Tale.word(0));
        StageHouse house = new Tale().room(1, chain()).actor(1, 1, 0, 0, 1)
            .script(1, shut, Tale.raw(1), open, Tale.raw(1)).house();
        house.start(1);
        house.tick(1);
        Check.due("no way", house.way(1, 0, 9), 0);
        Check.due("a way before it", house.way(1, 0, 7), 8);
        Check.due("NEIGHBOURS all the same", house.neighbours(1, 7, 8), 1);
        Check.due("a GOAL before it", house.goal(1, 31, 1), 256 * 15 + 1);
        house.tick(1);
        Check.due("a way", house.way(1, 0, 9), 10);
        Check.due("a GOAL behind it", house.goal(1, 31, 1), 256 * 31 + 1);
    }

    private static void agreesWithAllPoints() {
        int[] seed = {20261116};
        for (int run = 0; run < 150; run++) {
            int many = 1 + next(seed, 16);
            int side = 6 + next(seed, 20);
            int[] boxes = new int[5 * many];
            for (int i = 0; i < many; i++) {
                boxes[5 * i] = next(seed, side);
                boxes[5 * i + 1] = next(seed, side);
                boxes[5 * i + 2] = Math.min(255, boxes[5 * i] + next(seed, 4));
                boxes[5 * i + 3] = Math.min(255, boxes[5 * i + 1] + next(seed, 4));
                boxes[5 * i + 4] = next(seed, 5) == 0 ? 1 : 0;
            }
            int first = next(seed, many);
            StageHouse house = new Tale().room(1, boxes).actor(1, 1, boxes[5 * first], boxes[5 * first + 1], 1)
                .house();
            compare(house, boxes, seed, side);
        }
    }

    private static void compare(StageHouse house, int[] boxes, int[] seed, int side) {
        int many = boxes.length / 5;
        int[][] ways = new int[many][];
        for (int b = 0; b < many; b++) {
            ways[b] = waysFrom(boxes, b);
            for (int c = 0; c < many; c++) {
                Check.due("neighbours", house.neighbours(1, b, c), touch(boxes, b, c) ? 1 : 0);
                boolean shut = boxes[5 * b + 4] == 1 || boxes[5 * c + 4] == 1;
                Check.due("way", house.way(1, b, c), shut ? -1 : ways[b][c]);
            }
        }
        int own = boxAt(boxes, house.actor(1, 1), house.actor(1, 2));
        Check.due("actor(1, 7)", house.actor(1, 7), own);
        for (int i = 0; i < 10; i++) {
            int x = next(seed, side + 6);
            int y = next(seed, side + 6);
            Check.due("goal", house.goal(1, x, y), own < 0 ? -1 : bestPoint(boxes, ways[own], x, y));
        }
    }

    private static boolean has(int[] boxes, int b, int x, int y) {
        return x >= boxes[5 * b] && x <= boxes[5 * b + 2] && y >= boxes[5 * b + 1] && y <= boxes[5 * b + 3];
    }

    private static int boxAt(int[] boxes, int x, int y) {
        for (int b = 0; b < boxes.length / 5; b++) {
            if (boxes[5 * b + 4] == 0 && has(boxes, b, x, y)) {
                return b;
            }
        }
        return -1;
    }

    private static boolean touch(int[] boxes, int b, int c) {
        for (int x = boxes[5 * b]; x <= boxes[5 * b + 2]; x++) {
            for (int y = boxes[5 * b + 1]; y <= boxes[5 * b + 3]; y++) {
                if (has(boxes, c, x, y) || has(boxes, c, x - 1, y) || has(boxes, c, x + 1, y)
                    || has(boxes, c, x, y - 1) || has(boxes, c, x, y + 1)) {
                    return true;
                }
            }
        }
        return false;
    }

    private static int[] waysFrom(int[] boxes, int from) {
        int[] ways = new int[boxes.length / 5];
        List<Integer> row = new ArrayList<>(List.of(from));
        ways[from] = 1;
        while (!row.isEmpty()) {
            int b = row.remove(0);
            for (int c = 0; c < ways.length; c++) {
                if (ways[c] == 0 && boxes[5 * c + 4] == 0 && touch(boxes, b, c)) {
                    ways[c] = ways[b] + 1;
                    row.add(c);
                }
            }
        }
        return ways;
    }

    private static int bestPoint(int[] boxes, int[] ways, int x, int y) {
        int best = -1;
        int least = Integer.MAX_VALUE;
        for (int b = 0; b < ways.length; b++) {
            for (int px = boxes[5 * b]; ways[b] != 0 && px <= boxes[5 * b + 2]; px++) {
                for (int py = boxes[5 * b + 1]; py <= boxes[5 * b + 3]; py++) {
                    int square = (x - px) * (x - px) + (y - py) * (y - py);
                    if (square < least) {
                        least = square;
                        best = 256 * px + py;
                    }
                }
            }
        }
        return best;
    }

    private static int next(int[] seed, int below) {
        seed[0] = seed[0] * 1664525 + 1013904223;
        return (seed[0] >>> 8) % below;
    }
}
