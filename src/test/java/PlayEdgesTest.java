import java.util.Arrays;

/** The edges of a PLAY and its FAULTS: Term 1, promises 4 (play) and 5 (fault). */
public final class PlayEdgesTest extends Edges {
    private static final int[] TAGS = {82, 83, 79, 65};
    private static final int[] ROOM = {1, 1, 100, 100, 200, 200, 0};
    private static final int[] SCRIPT = {1, 7, 7};
    private static final int[] OBJECT = {1, 1, 100, 100, 100, 9, 9, 8, 8};
    private static final int[] ACTOR = {1, 1, 100, 100, 4};

    public static void main(String[] args) {
        mark();
        tags();
        counts();
        emptyBlocks();
        everyByteOfARoom();
        boxesOfARoom();
        everyByteOfAScript();
        everyByteOfAnObject();
        verbs();
        everyByteOfAnActor();
        inOrderAsTold();
        blocksThatEndTooEarly();
        bytesTooMany();
        numbersTwice();
        allNumbersAtOnce();
        namedButNotThere();
        theFirstOfTwo();
        takenPlay();
        nothingOfThePlayBefore();
        refusedPlay();
        cutAnywhere();
        faultAnswers();
        Check.finish();
    }

    private static int[] block(int tag, int... inside) {
        return new Tale().block(tag, inside).bytes();
    }

    private static int[] with(int[] inside, int at, int b) {
        int[] other = inside.clone();
        other[at] = b;
        return other;
    }

    private static void faulty(String told, int[] bytes, int kind, int place) {
        StageHouse house = new StageHouse();
        Tale.put(house, bytes);
        Check.dueIllegalArgument(told, house::play);
        due(told + ": fault(0)", house.fault(0), kind);
        due(told + ": fault(1)", house.fault(1), place);
    }

    private static StageHouse taken(String told, int[] bytes, int blocks) {
        StageHouse house = new StageHouse();
        Tale.put(house, bytes);
        due(told, house.play(), blocks);
        due(told + ": fault(0)", house.fault(0), 0);
        return house;
    }

    /** The byte at a place of a BLOCK may be least .. most, and nothing else. */
    private static void range(int tag, int[] inside, int at, int least, int most) {
        for (int b = 0; b <= 255; b++) {
            String told = "tag " + tag + ", byte " + at + " is " + b;
            int[] bytes = block(tag, with(inside, at, b));
            if (b >= least && b <= most) {
                taken(told, bytes, 1);
            } else {
                faulty(told, bytes, 4, 7 + at);
            }
        }
    }

    private static void mark() {
        says("1 the first four bytes (at the first that is otherwise, or the end)");
        int[] mark = {80, 76, 65, 89};
        for (int at = 0; at < 4; at++) {
            faulty("the end at " + at, Arrays.copyOf(mark, at), 1, at);
            for (int b = 0; b <= 255; b++) {
                if (b != mark[at]) {
                    faulty("byte " + at + " is " + b, with(mark, at, b), 1, at);
                }
            }
        }
        faulty("the last two are otherwise", new int[] {80, 76, 0, 0}, 1, 2);
        faulty("otherwise, before the end", new int[] {80, 0}, 1, 1);
        says("the bytes 80 76 65 89, then BLOCKS up to the end");
        taken("no BLOCKS", mark, 0);
        faulty("one byte behind the mark", Tale.join(mark, new int[] {80}), 2, 4);
    }

    private static void tags() {
        says("2 its tag (at it)");
        for (int tag = 0; tag <= 255; tag++) {
            boolean known = Arrays.binarySearch(new int[] {65, 79, 82, 83}, tag) >= 0;
            if (!known) {
                faulty("tag " + tag, new int[] {80, 76, 65, 89, tag, 0, 0}, 2, 4);
                faulty("tag " + tag + " alone", new int[] {80, 76, 65, 89, tag}, 2, 4);
                faulty("tag " + tag + " behind a BLOCK", new Tale().room(1).block(tag).bytes(), 2, 9);
            }
        }
    }

    private static void counts() {
        says("3 not so many bytes (at the tag)");
        for (int tag : TAGS) {
            int[] head = {80, 76, 65, 89, tag};
            faulty("no COUNT", head, 3, 4);
            for (int b : new int[] {0, 1, 255}) {
                faulty("half a COUNT", Tale.join(head, new int[] {b}), 3, 4);
            }
            for (int n : new int[] {6, 7, 255, 256, 257, 5994, 6000, 32767, 32768, 32773, 65535}) {
                int[] bytes = Tale.join(head, new int[] {n >> 8, n & 255, 1, 0, 0, 0, 0});
                faulty("a COUNT of " + n + ", and five bytes", bytes, 3, 4);
            }
        }
        faulty("in a second BLOCK", Tale.join(new Tale().room(1).bytes(), new int[] {82, 0, 3, 2, 0}), 3, 9);
        says("Numbers of two bytes have the highest first; a WORD is one of -32768 .. 32767, a COUNT one of 0 .. 65535.");
        taken("a COUNT of 258", block(83, Tale.join(new int[] {1}, times(257, END))), 1);
        taken("a COUNT of 5993", block(83, Tale.join(new int[] {1}, times(5992, END))), 1);
    }

    private static void emptyBlocks() {
        says("also where one is wanted and there is none: at the BLOCK's end");
        for (int tag : TAGS) {
            faulty("an empty BLOCK", block(tag), 4, 7);
            faulty("an empty BLOCK before another", new Tale().block(tag).room(1).bytes(), 4, 7);
        }
    }

    private static void everyByteOfARoom() {
        says("a ROOM: its number 1 .. 20, how many BOXES 0 .. 16");
        range(82, ROOM, 0, 1, 20);
        for (int b = 0; b <= 255; b++) {
            if (b != 1) {
                int place = b == 0 ? 9 : b <= 16 ? 7 + ROOM.length : 8;
                faulty(b + " BOXES, and one is there", block(82, with(ROOM, 1, b)), 4, place);
            }
        }
        says("x0, y0, x1, y1 (x0 not above x1, y0 not above y1), 0 or 1 (SHUT)");
        for (int b = 0; b <= 255; b++) {
            for (int at = 2; at <= 3; at++) {
                int[] bytes = block(82, with(ROOM, at, b));
                if (b <= 200) {
                    taken("byte " + at + " of a ROOM is " + b, bytes, 1);
                } else {
                    faulty("byte " + at + " of a ROOM is " + b, bytes, 4, 7 + at + 2);
                }
            }
        }
        range(82, ROOM, 4, 100, 255);
        range(82, ROOM, 5, 100, 255);
        range(82, ROOM, 6, 0, 1);
    }

    private static void boxesOfARoom() {
        says("how many BOXES 0 .. 16");
        for (int many = 0; many <= 17; many++) {
            int[] inside = Tale.join(new int[] {20, many}, times(many, new int[] {0, 0, 255, 255, 1}));
            if (many <= 16) {
                StageHouse house = taken(many + " BOXES", block(82, inside), 1);
                due("the last BOX", house.box(20, many - 1, 4), many == 0 ? NONE : 1);
                due("one behind it", house.box(20, many, 4), NONE);
            } else {
                faulty(many + " BOXES", block(82, inside), 4, 8);
            }
        }
        says("x0 not above x1, y0 not above y1");
        StageHouse house = taken("a point at 0, 0 and one at 255, 255",
            block(82, 1, 2, 0, 0, 0, 0, 0, 255, 255, 255, 255, 0), 1);
        due("x0 is x1", house.box(1, 1, 0), house.box(1, 1, 2));
        faulty("x0 255, x1 254", block(82, 1, 1, 255, 0, 254, 0, 0), 4, 11);
        faulty("y0 1, y1 0", block(82, 1, 1, 0, 1, 0, 0, 0), 4, 12);
        faulty("the 16th BOX's last byte", block(82, Tale.join(new int[] {1, 16},
            times(15, new int[] {1, 1, 1, 1, 1}), new int[] {1, 1, 1, 1, 2})), 4, 88);
    }

    private static void everyByteOfAScript() {
        says("a SCRIPT: its number 1 .. 60, then its CODE, 1 byte at least");
        range(83, SCRIPT, 0, 1, 60);
        range(83, SCRIPT, 1, 0, 255);
        range(83, SCRIPT, 2, 0, 255);
        taken("1 byte of CODE", block(83, 60, 255), 1);
        faulty("no byte of CODE", block(83, 60), 4, 8);
        faulty("no byte of CODE before a BLOCK", new Tale().block(83, 60).room(1).bytes(), 4, 8);
    }

    private static void everyByteOfAnObject() {
        says("an OBJECT: its number 1 .. 60, a ROOM 0 .. 20, x, y (0 .. 255), a STATE 0 .. 255");
        range(79, OBJECT, 0, 1, 60);
        range(79, OBJECT, 1, 0, 20);
        range(79, OBJECT, 2, 0, 255);
        range(79, OBJECT, 3, 0, 255);
        range(79, OBJECT, 4, 0, 255);
        says("pairs of a VERB 1 .. 255 and a SCRIPT 1 .. 60");
        range(79, Arrays.copyOf(OBJECT, 7), 5, 1, 255);
        range(79, OBJECT, 6, 1, 60);
        range(79, OBJECT, 8, 1, 60);
    }

    private static void verbs() {
        says("of each VERB one at most");
        for (int verb = 0; verb <= 255; verb++) {
            int[] bytes = block(79, with(OBJECT, 7, verb));
            if (verb == 0 || verb == 9) {
                faulty("a second VERB " + verb, bytes, 4, 14);
            } else {
                taken("a second VERB " + verb, bytes, 1);
            }
        }
        faulty("VERB 255 twice", block(79, 1, 0, 0, 0, 0, 255, 1, 1, 1, 255, 1), 4, 16);
        int[] all = new int[510];
        for (int i = 0; i < 255; i++) {
            all[2 * i] = 255 - i;
            all[2 * i + 1] = 60;
        }
        int[] head = {60, 0, 0, 0, 0};
        StageHouse house = taken("all VERBS", block(79, Tale.join(head, all)), 1);
        due("object(60, 5)", house.object(60, 5), 255);
        faulty("all VERBS and one more", block(79, Tale.join(head, all, new int[] {255, 1})), 4, 522);
        house = taken("a VERB of two OBJECTS", new Tale().object(1, 0, 0, 0, 0, 7, 1).object(2, 0, 0, 0, 0, 7, 2)
            .bytes(), 2);
        due("verb(1, 7)", house.verb(1, 7), 1);
        due("verb(2, 7)", house.verb(2, 7), 2);
        house = taken("no VERBS", new Tale().object(1, 0, 0, 0, 0).bytes(), 1);
        due("object(1, 5)", house.object(1, 5), 0);
    }

    private static void everyByteOfAnActor() {
        says("an ACTOR: its number 1 .. 12, a ROOM 0 .. 20, x, y, a SPEED 0 .. 8");
        range(65, ACTOR, 0, 1, 12);
        range(65, ACTOR, 1, 0, 20);
        range(65, ACTOR, 2, 0, 255);
        range(65, ACTOR, 3, 0, 255);
        range(65, ACTOR, 4, 0, 8);
    }

    private static void inOrderAsTold() {
        says("4 a byte in it that can't be (at it; in order, as told");
        int[][] rows = {{82, 0, 17}, {82, 1, 17, 9, 9}, {83, 0}, {79, 0, 21, 0, 0, 0, 0, 0}, {79, 1, 21, 0, 0, 0, 0, 0},
            {79, 1, 20, 0, 0, 0, 0, 0}, {79, 1, 20, 0, 0, 0, 1, 0}, {65, 0, 21, 0, 0, 9, 9}, {65, 1, 21, 0, 0, 9, 9},
            {65, 1, 20, 0, 0, 9, 9}, {65, 1, 20, 0, 0, 8, 9}};
        int[] places = {7, 8, 7, 7, 8, 12, 13, 7, 8, 11, 12};
        for (int i = 0; i < rows.length; i++) {
            faulty("row " + i, block(rows[i][0], Arrays.copyOfRange(rows[i], 1, rows[i].length)), 4, places[i]);
        }
    }

    private static void blocksThatEndTooEarly() {
        says("also where one is wanted and there is none: at the BLOCK's end");
        int[][] whole = {ROOM, SCRIPT, OBJECT, ACTOR};
        for (int i = 0; i < 4; i++) {
            for (int there = 0; there < whole[i].length; there++) {
                boolean isWhole = TAGS[i] == 83 && there == 2 || TAGS[i] == 79 && (there == 5 || there == 7);
                if (!isWhole) {
                    int[] inside = Arrays.copyOf(whole[i], there);
                    String told = "tag " + TAGS[i] + " with " + there + " bytes";
                    faulty(told, block(TAGS[i], inside), 4, 7 + there);
                    faulty(told + " and a BLOCK", new Tale().block(TAGS[i], inside).room(9).bytes(), 4, 7 + there);
                }
            }
        }
        faulty("the second of two BOXES ends", block(82, 1, 2, 1, 1, 1, 1, 0, 1, 1, 1, 1), 4, 18);
    }

    private static void bytesTooMany() {
        says("one too many: at the first of these");
        for (int many = 1; many <= 3; many++) {
            int[] more = new int[many];
            faulty(many + " behind a ROOM", block(82, Tale.join(ROOM, more)), 4, 14);
            faulty(many + " behind a ROOM without BOXES", block(82, Tale.join(new int[] {1, 0}, more)), 4, 9);
            faulty(many + " behind an ACTOR", block(65, Tale.join(ACTOR, more)), 4, 12);
        }
        faulty("five more, as a BOX would have", block(82, 1, 0, 1, 1, 1, 1, 0), 4, 9);
        faulty("a whole BLOCK in an ACTOR's", block(65, Tale.join(ACTOR, new int[] {82, 0, 2, 1, 0})), 4, 12);
    }

    private static void numbersTwice() {
        says("a kind's number that was there: at it");
        int[][] whole = {ROOM, SCRIPT, OBJECT, ACTOR};
        int[] most = {20, 60, 60, 12};
        for (int i = 0; i < 4; i++) {
            for (int number : new int[] {1, most[i]}) {
                int[] inside = with(whole[i], 0, number);
                int at = 4 + 3 + inside.length + 3;
                Tale twice = new Tale().block(TAGS[i], inside).block(TAGS[i], inside);
                faulty("tag " + TAGS[i] + ", " + number + " twice", twice.bytes(), 4, at);
                int[] alone = {number};
                Tale early = new Tale().block(TAGS[i], inside).block(TAGS[i], alone);
                faulty("and nothing behind it", early.bytes(), 4, at);
            }
        }
        says("Each kind's numbers at most once.");
        Tale other = new Tale().room(1).script(1, END).object(1, 0, 0, 0, 0).actor(1, 0, 0, 0, 0);
        taken("one number of four kinds", other.bytes(), 4);
    }

    private static void allNumbersAtOnce() {
        says("Each kind's numbers at most once.");
        Tale tale = new Tale();
        for (int i = 60; i >= 1; i--) {
            tale.script(i, END).object(i, 0, i, 0, 0);
        }
        for (int i = 1; i <= 20; i++) {
            tale.room(i);
        }
        for (int i = 1; i <= 12; i++) {
            tale.actor(i, 0, i, 0, 0);
        }
        StageHouse house = taken("all there can be", tale.bytes(), 152);
        int[] due = {20, 60, 60, 12};
        for (int i = 0; i < 4; i++) {
            due("count(" + (7 + i) + ")", house.count(7 + i), due[i]);
        }
        for (int i = 1; i <= 60; i++) {
            due("object(" + i + ", 1)", house.object(i, 1), i);
        }
        for (int i = 1; i <= 12; i++) {
            due("actor(" + i + ", 1)", house.actor(i, 1), i);
        }
        faulty("and one more", Tale.join(tale.bytes(), new int[] {82, 0, 2, 20, 0}), 4, tale.bytes().length + 3);
    }

    private static void namedButNotThere() {
        says("(ROOMS and SCRIPTS that are named need not be there.)");
        StageHouse house = taken("none of what is named", new Tale().object(1, 20, 1, 1, 1, 1, 60)
            .actor(1, 20, 1, 1, 8).bytes(), 2);
        due("count(7)", house.count(7), 0);
        due("count(8)", house.count(8), 0);
        due("object(1, 0)", house.object(1, 0), 20);
        due("verb(1, 1)", house.verb(1, 1), 60);
        due("actor(1, 0)", house.actor(1, 0), 20);
        due("actor(1, 7)", house.actor(1, 7), -1);
    }

    private static void theFirstOfTwo() {
        says("FAULT of a PLAY, the first");
        faulty("the mark, and a tag", new int[] {80, 76, 65, 88, 1}, 1, 3);
        faulty("a tag, and no COUNT", new int[] {80, 76, 65, 89, 1}, 2, 4);
        faulty("a COUNT, and the number", new int[] {80, 76, 65, 89, 82, 0, 3, 0, 0}, 3, 4);
        faulty("the number, and a byte too many", block(82, 0, 0, 0), 4, 7);
        faulty("the number, and the next byte", block(82, 21, 17), 4, 7);
        faulty("a byte, and one that is wanted", block(65, 1, 21), 4, 8);
        faulty("a byte, and a later BLOCK's tag", new Tale().block(65, 1, 0, 0, 0, 9).block(1).bytes(), 4, 11);
        faulty("a second BLOCK's tag, and a third's", new Tale().room(1).block(2).block(1).bytes(), 2, 9);
        faulty("x1 and y1", block(82, 1, 1, 2, 2, 1, 1, 2), 4, 11);
        faulty("y1 and SHUT", block(82, 1, 1, 2, 2, 2, 1, 2), 4, 12);
        faulty("a VERB and its SCRIPT", block(79, 1, 0, 0, 0, 0, 0, 0), 4, 12);
        faulty("the number that was there, and its ROOM",
            new Tale().actor(1, 0, 0, 0, 0).actor(1, 21, 0, 0, 0).bytes(), 4, 15);
    }

    private static void takenPlay() {
        says("how many BLOCKS; it is that of the house, as it is at first, TICK 0, nothing runs.");
        StageHouse house = new Tale().room(2, 1, 1, 2, 2, 1).script(2, loop()).object(2, 0, 0, 0, 5, 1, 1)
            .actor(2, 0, 0, 0, 0).house();
        house.start(2);
        house.tick(7);
        house.say(1, 1, 1);
        Tale.put(house, new Tale().bytes());
        due("a PLAY of no BLOCKS", house.play(), 0);
        for (int what = 0; what <= 11; what++) {
            due("count(" + what + ")", house.count(what), what == 6 ? 1 : 0);
        }
        due("nothing of the one before: start(2)", house.start(2), NONE);
        due("box(2, 0, 0)", house.box(2, 0, 0), NONE);
        due("verb(2, 1)", house.verb(2, 1), 0);
        Check.dueNoSuchElement("object(2, 0)", () -> house.object(2, 0));
        Check.dueNoSuchElement("actor(2, 0)", () -> house.actor(2, 0));
        isFree("SLOT 0", house, 0);
        Tale.put(house, new Tale().room(2, 1, 1, 2, 2, 0).bytes());
        due("a ROOM that was there before", house.play(), 1);
        due("open now", house.box(2, 0, 4), 0);
    }

    private static void nothingOfThePlayBefore() {
        says("as it is at first, TICK 0, nothing runs");
        int[] boxes = {0, 0, 1, 1, 1, 2, 0, 3, 1, 0, 0, 2, 1, 3, 0};
        Tale tale = new Tale().room(1, boxes).actor(12, 1, 0, 0, 1).object(60, 0, 0, 0, 9)
            .script(1, words(18, 60, 12), words(17, 60, 1), words(19, 1, 0, 0), words(19, 1, 1, 1), words(14, 12, 1, 1),
                words(16, 12, 8), BREAK);
        StageHouse house = tale.house();
        String first = look(house);
        house.start(1);
        for (int i = 0; i < 64; i++) {
            house.set(i, 100 + i);
        }
        house.tick(1);
        Tale.put(house, tale.bytes());
        due("play()", house.play(), 4);
        same("the same PLAY again: all is as at first", look(house), first);
        Tale.put(house, new Tale().room(1, 0, 0, 1, 1, 0, 9, 9, 9, 9, 0).actor(12, 1, 0, 0, 1).bytes());
        due("other BOXES: play()", house.play(), 2);
        for (int b = 0; b < 2; b++) {
            due("they are no NEIGHBOURS", house.neighbours(1, b, 1 - b), 0);
            due("there is no way", house.way(1, b, 1 - b), 0);
        }
        due("the third is gone", house.neighbours(1, 0, 2), NONE);
        due("the GOAL", house.goal(12, 255, 255), 256 + 1);
    }

    /** What stood behind the end is no byte of the PLAY, also if it would do as one. */
    private static void cutAnywhere() {
        says("(at the first that is otherwise, or the end)");
        int[] bytes = new Tale().actor(1, 1, 1, 1, 1).room(1).bytes();
        for (int n = 0; n <= bytes.length; n++) {
            StageHouse house = new StageHouse();
            Tale.put(house, bytes);
            house.end(n);
            if (n == 4 || n == 12 || n == 17) {
                due("cut at " + n, house.play(), n == 4 ? 0 : n == 12 ? 1 : 2);
            } else {
                Check.dueIllegalArgument("cut at " + n, house::play);
                due("fault(0)", house.fault(0), n < 4 ? 1 : 3);
                due("fault(1)", house.fault(1), n < 4 ? n : n < 12 ? 4 : 12);
            }
        }
    }

    private static void refusedPlay() {
        says("IllegalArgumentException: it has a FAULT (what there was stays).");
        Tale tale = new Tale().room(1, 1, 1, 5, 5, 1).script(1, note(5), BREAK, note(6), BREAK).actor(1, 1, 2, 2, 3)
            .object(1, 1, 3, 3, 3, 1, 1);
        int[][] wrong = {{}, {80, 76, 65}, {80, 76, 65, 89, 1}, {80, 76, 65, 89, 82, 0}, block(82, 1, 17),
            new Tale().room(1).room(2).room(3).script(1, END).script(2, END).actor(1, 9, 9, 9, 8)
                .object(1, 9, 9, 9, 9).object(2, 9, 9, 9, 9).block(7).bytes()};
        StageHouse house = tale.house();
        house.start(1);
        house.tick(1);
        house.say(4, 5, 6);
        house.walk(1, 5, 5);
        for (int[] bytes : wrong) {
            Tale.put(house, bytes);
            Check.dueIllegalArgument("play()", house::play);
            int[] counts = {1, 1, 1, 1, 0, 0, 1, 1, 1, 1, 1, 0};
            for (int what = 0; what < counts.length; what++) {
                due("count(" + what + ")", house.count(what), counts[what]);
            }
            due("box(1, 0, 2)", house.box(1, 0, 2), 5);
            due("box(1, 0, 4)", house.box(1, 0, 4), 1);
            due("slot(0, 1)", house.slot(0, 1), 5);
            due("sentence(0, 0)", house.sentence(0, 0), 4);
            due("actor(1, 5)", house.actor(1, 5), 5);
            due("object(1, 3)", house.object(1, 3), 3);
            due("verb(1, 1)", house.verb(1, 1), 1);
        }
        due("its CODE stays", house.tick(1), 2);
        due("its NOTE", house.note(0), 6);
    }

    private static void faultAnswers() {
        says("The FAULT of the latest play() (what 0: 0 of one that was taken), its place (1).");
        StageHouse house = new StageHouse();
        due("fault(0) before any play()", house.fault(0), 0);
        Tale.put(house, block(82, 1, 17));
        Check.dueIllegalArgument("play()", house::play);
        due("fault(0)", house.fault(0), 4);
        due("fault(1)", house.fault(1), 8);
        house.feed(1, 1, 1, 1, 1);
        house.tick(1);
        due("fault(0) stays while others are called", house.fault(0), 4);
        due("fault(1) stays", house.fault(1), 8);
        Check.dueIllegalArgument("play()", house::play);
        due("fault(0) of the latest", house.fault(0), 1);
        due("fault(1) of the latest", house.fault(1), 0);
        Tale.put(house, new Tale().bytes());
        house.play();
        due("fault(0) of one that was taken", house.fault(0), 0);
        says("NONE for another what.");
        for (int what : new int[] {-1, 2, LEAST, MOST}) {
            due("fault(" + what + ")", house.fault(what), NONE);
        }
    }
}
