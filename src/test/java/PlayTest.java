import java.util.Arrays;

/** Promises 4 (play) and 5 (fault): what a PLAY is, and its first FAULT. */
public final class PlayTest {
    public static void main(String[] args) {
        faultsOfTheMark();
        faultsOfTagAndLength();
        faultsOfARoom();
        faultsOfAScript();
        faultsOfAnObject();
        faultsOfAnActor();
        theFirstFaultCounts();
        aBlockEndsWhereItSays();
        takesTheEdges();
        aFaultLeavesAllAsItWas();
        aPlayBeginsAnew();
        Check.finish();
    }

    private static void faulty(String told, int[] bytes, int kind, int place) {
        StageHouse house = new StageHouse();
        Tale.put(house, bytes);
        Check.dueIllegalArgument(told, house::play);
        Check.due(told + ": fault(0)", house.fault(0), kind);
        Check.due(told + ": fault(1)", house.fault(1), place);
        Check.due(told + ": count(11)", house.count(11), 0);
    }

    private static int[] block(int tag, int... inside) {
        return new Tale().block(tag, inside).bytes();
    }

    private static void faultsOfTheMark() {
        int[] mark = {80, 76, 65, 89};
        for (int i = 0; i < 4; i++) {
            faulty("a mark of " + i, Arrays.copyOf(mark, i), 1, i);
            int[] other = mark.clone();
            other[i]++;
            faulty("a mark with another byte " + i, other, 1, i);
        }
        faulty("two other bytes", new int[] {80, 0, 0, 89}, 1, 1);
    }

    private static void faultsOfTagAndLength() {
        for (int tag = 0; tag < 256; tag++) {
            if (tag != 82 && tag != 83 && tag != 79 && tag != 65) {
                faulty("tag " + tag, block(tag, 1, 0), 2, 4);
            }
        }
        for (int tag : new int[] {82, 83, 79, 65}) {
            faulty("tag alone", new int[] {80, 76, 65, 89, tag}, 3, 4);
            faulty("tag and half a count", new int[] {80, 76, 65, 89, tag, 0}, 3, 4);
            faulty("one byte too few", new int[] {80, 76, 65, 89, tag, 0, 2, 1}, 3, 4);
            faulty("256 bytes too few", new int[] {80, 76, 65, 89, tag, 1, 1, 1}, 3, 4);
            faulty("65535 bytes", new int[] {80, 76, 65, 89, tag, 255, 255, 1}, 3, 4);
            faulty("no bytes", new int[] {80, 76, 65, 89, tag, 0, 0}, 4, 7);
        }
        int[] second = Tale.join(new Tale().room(1).bytes(), new int[] {82, 0});
        faulty("a second block's tag and half a count", second, 3, 9);
        faulty("a second block's tag", Tale.join(new Tale().room(1).bytes(), new int[] {0}), 2, 9);
    }

    private static void faultsOfARoom() {
        faulty("room 0", block(82, 0, 0), 4, 7);
        faulty("room 21", block(82, 21, 0), 4, 7);
        faulty("room without boxes' number", block(82, 1), 4, 8);
        faulty("17 boxes", block(82, 1, 17), 4, 8);
        faulty("boxes, and none there", block(82, 1, 1), 4, 9);
        for (int there = 0; there < 5; there++) {
            int[] inside = Arrays.copyOf(new int[] {1, 1, 2, 2, 3, 3, 0}, 2 + there);
            faulty("a box of " + there, block(82, inside), 4, 9 + there);
        }
        faulty("x0 above x1", block(82, 1, 1, 5, 5, 4, 9, 0), 4, 11);
        faulty("y0 above y1", block(82, 1, 1, 5, 5, 9, 4, 0), 4, 12);
        faulty("both", block(82, 1, 1, 5, 5, 4, 4, 0), 4, 11);
        faulty("shut 2", block(82, 1, 1, 5, 5, 5, 5, 2), 4, 13);
        faulty("a second box's x1", block(82, 1, 2, 5, 5, 5, 5, 1, 9, 9, 8, 9, 0), 4, 16);
        faulty("one byte too many", block(82, 1, 1, 5, 5, 5, 5, 1, 0), 4, 14);
        faulty("two bytes too many", block(82, 1, 0, 0, 0), 4, 9);
        faulty("room 3 twice", new Tale().room(3).room(4).room(3).bytes(), 4, 17);
    }

    private static void faultsOfAScript() {
        faulty("script 0", block(83, 0, 0), 4, 7);
        faulty("script 61", block(83, 61, 0), 4, 7);
        faulty("script without code", block(83, 60), 4, 8);
        faulty("script 3 twice", new Tale().block(83, 3, 0).block(83, 3, 0).bytes(), 4, 12);
    }

    private static void faultsOfAnObject() {
        faulty("object 0", block(79, 0, 0, 0, 0, 0), 4, 7);
        faulty("object 61", block(79, 61, 0, 0, 0, 0), 4, 7);
        faulty("object in room 21", block(79, 1, 21, 0, 0, 0), 4, 8);
        for (int there = 1; there < 5; there++) {
            faulty("an object of " + there, block(79, Arrays.copyOf(new int[] {1}, there)), 4, 7 + there);
        }
        faulty("verb 0", block(79, 1, 0, 0, 0, 0, 0, 1), 4, 12);
        faulty("verb's script 0", block(79, 1, 0, 0, 0, 0, 1, 0), 4, 13);
        faulty("verb's script 61", block(79, 1, 0, 0, 0, 0, 1, 61), 4, 13);
        faulty("verb without script", block(79, 1, 0, 0, 0, 0, 255), 4, 13);
        faulty("verb 9 twice", block(79, 1, 0, 0, 0, 0, 9, 1, 8, 1, 9, 1), 4, 16);
        faulty("verb 9 twice, its script too", block(79, 1, 0, 0, 0, 0, 9, 1, 9, 61), 4, 14);
        faulty("verb 9 twice, no script", block(79, 1, 0, 0, 0, 0, 9, 1, 9), 4, 14);
        faulty("verb 0 without script", block(79, 1, 0, 0, 0, 0, 0), 4, 12);
        faulty("object 2 twice", new Tale().object(2, 0, 0, 0, 0).object(2, 0, 0, 0, 0).bytes(), 4, 15);
    }

    private static void faultsOfAnActor() {
        faulty("actor 0", block(65, 0, 0, 0, 0, 0), 4, 7);
        faulty("actor 13", block(65, 13, 0, 0, 0, 0), 4, 7);
        faulty("actor in room 21", block(65, 1, 21, 0, 0, 0), 4, 8);
        faulty("speed 9", block(65, 1, 0, 0, 0, 9), 4, 11);
        faulty("one byte too many", block(65, 1, 0, 0, 0, 8, 0), 4, 12);
        for (int there = 1; there < 5; there++) {
            faulty("an actor of " + there, block(65, Arrays.copyOf(new int[] {1}, there)), 4, 7 + there);
        }
        faulty("actor 12 twice", new Tale().actor(12, 0, 0, 0, 0).actor(12, 0, 0, 0, 0).bytes(), 4, 15);
    }

    private static void theFirstFaultCounts() {
        faulty("a byte, then a tag", new Tale().block(82, 0, 0).block(1).bytes(), 4, 7);
        faulty("a tag, and its length", new int[] {80, 76, 65, 89, 66, 0, 9}, 2, 4);
        faulty("a length, and a byte", new int[] {80, 76, 65, 89, 82, 0, 9, 0}, 3, 4);
        faulty("the room's byte, and one too many", block(65, 1, 21, 0, 0, 9, 9), 4, 8);
    }

    /** What is wanted is not taken from the next BLOCK. */
    private static void aBlockEndsWhereItSays() {
        int[][] whole = {{82, 1, 1, 0, 0, 200, 200, 0}, {83, 1, 1}, {79, 1, 1, 1, 1, 1, 1, 1}, {65, 1, 1, 1, 1, 1}};
        for (int[] block : whole) {
            for (int there = 0; there < block.length - 1; there++) {
                if (block[0] == 79 && there == 5) {
                    continue;
                }
                int[] inside = Arrays.copyOfRange(block, 1, 1 + there);
                for (int next : new int[] {82, 83, 79, 65}) {
                    int[] bytes = new Tale().block(block[0], inside).block(next, 9, 0).bytes();
                    faulty("tag " + block[0] + ", " + there + " bytes, then " + next, bytes, 4, 7 + there);
                }
            }
        }
        StageHouse house = new Tale().object(1, 0, 0, 0, 0, 7, 9).script(5, new int[300]).house();
        Check.due("a tag is no VERB", house.verb(1, 83), 0);
        Check.due("its VERBS", house.object(1, 5), 1);
    }

    private static void takesTheEdges() {
        StageHouse house = new Tale().house();
        Check.due("no blocks: fault(0)", house.fault(0), 0);
        int[] boxes = new int[80];
        for (int i = 0; i < 80; i += 5) {
            boxes[i + 2] = 255;
            boxes[i + 3] = 255;
            boxes[i + 4] = i % 2;
        }
        int[] verbs = new int[511];
        verbs[0] = 255;
        for (int i = 0; i < 255; i++) {
            verbs[1 + 2 * i] = 255 - i;
            verbs[2 + 2 * i] = 1 + i % 60;
        }
        house = new StageHouse();
        int[] code = new int[300];
        Tale tale = new Tale().object(60, 20, 255, 255, verbs).room(20, boxes).room(1)
            .script(60, code).script(1, new int[1]).actor(12, 20, 255, 255, 8).object(1, 0, 0, 0, 0);
        Tale.put(house, tale.bytes());
        Check.due("play()", house.play(), 7);
        Check.due("fault(0)", house.fault(0), 0);
        Check.due("fault(2)", house.fault(2), -1);
        Check.due("fault(-1)", house.fault(-1), -1);
        Check.due("rooms", house.count(7), 2);
        Check.due("scripts", house.count(8), 2);
        Check.due("objects", house.count(9), 2);
        Check.due("actors", house.count(10), 1);
        Check.due("the tape is empty", house.count(11), 0);
        Check.due("box(20, 15, 4)", house.box(20, 15, 4), 1);
        Check.due("box(20, 14, 4)", house.box(20, 14, 4), 0);
        Check.due("box(20, 14, 3)", house.box(20, 14, 3), 255);
        Check.due("object(60, 5)", house.object(60, 5), 255);
        Check.due("verb(60, 255)", house.verb(60, 255), 1);
        Check.due("verb(60, 1)", house.verb(60, 1), 15);
        Check.dueIllegalArgument("an empty tape", house::play);
        Check.due("fault(0) of it", house.fault(0), 1);
        Check.due("fault(1) of it", house.fault(1), 0);
    }

    private static void aFaultLeavesAllAsItWas() {
        StageHouse house = new Tale().room(1, 1, 1, 5, 5, 0).actor(1, 1, 2, 2, 1)
            .object(3, 1, 4, 4, 9, 2, 1).script(1, Tale.order(20, Tale.word(4)), Tale.raw(1)).house();
        house.start(1);
        house.tick(1);
        house.keep();
        house.tick(0);
        house.set(9, 99);
        Tale.put(house, block(82, 1, 1, 5, 5, 5, 5, 2));
        Check.dueIllegalArgument("a play with a fault", house::play);
        Check.due("TICK stays", house.count(0), 1);
        Check.due("NOTES stay", house.note(0), 4);
        Check.due("the SLOT stays", house.slot(0, 0), 1);
        Check.due("the ROOM stays", house.box(1, 0, 2), 5);
        Check.due("the ACTOR stays", house.actor(1, 1), 2);
        Check.due("the OBJECT stays", house.object(3, 3), 9);
        Check.due("its VERB stays", house.verb(3, 2), 1);
        Check.due("the VARIABLE stays", house.variable(9), 99);
        Check.due("what was kept stays", house.back(), true);
        Check.due("and came back", house.variable(9), 0);
        Check.due("the FAULT is told still", house.fault(0), 4);
    }

    private static void aPlayBeginsAnew() {
        Tale tale = new Tale().room(1, 1, 1, 5, 5, 0).actor(1, 1, 2, 2, 3).object(3, 1, 4, 4, 9, 2, 1)
            .script(1, Tale.order(20, Tale.word(4)), Tale.order(17, Tale.word(3), Tale.word(7)),
                Tale.order(18, Tale.word(3), Tale.word(1)),
                Tale.order(19, Tale.word(1), Tale.word(0), Tale.word(1)),
                Tale.order(16, Tale.word(1), Tale.word(0)),
                Tale.order(14, Tale.word(1), Tale.word(5), Tale.word(5)),
                Tale.order(32, Tale.global(7), Tale.word(3)), Tale.order(11, Tale.word(2)),
                Tale.raw(1)).script(2, Tale.raw(99));
        StageHouse house = tale.house();
        house.start(1);
        Check.due("tick", house.tick(1), 9);
        for (int i = 0; i < 7; i++) {
            house.say(9, 9, 9);
        }
        house.keep();
        Check.due("CRASHES before", house.count(4), 1);
        Check.due("SPILLED before", house.count(5), 1);
        Tale.put(house, tale.bytes());
        Check.due("play()", house.play(), 5);
        for (int what = 0; what <= 6; what++) {
            Check.due("count(" + what + ")", house.count(what), what == 6 ? 1 : 0);
        }
        Check.due("VARIABLE 0", house.variable(0), 0);
        Check.due("SLOT 0", house.slot(0, 0), 0);
        Check.due("its PLACE", house.slot(0, 1), 0);
        Check.due("STATE", house.object(3, 3), 9);
        Check.due("OWNER", house.object(3, 4), 0);
        Check.due("SHUT", house.box(1, 0, 4), 0);
        Check.due("SPEED", house.actor(1, 3), 3);
        Check.due("it walks", house.actor(1, 4), 0);
        Check.due("nothing is kept", house.back(), false);
        Check.dueNoSuchElement("note(0)", () -> house.note(0));
        Tale.put(house, new Tale().bytes());
        Check.due("an empty play()", house.play(), 0);
        Check.dueNoSuchElement("actor(1, 0)", () -> house.actor(1, 0));
        Check.dueNoSuchElement("object(3, 0)", () -> house.object(3, 0));
        Check.due("verb(3, 2)", house.verb(3, 2), 0);
        Check.due("box(1, 0, 0)", house.box(1, 0, 0), -1);
        Check.due("start(1)", house.start(1), -1);
    }
}
