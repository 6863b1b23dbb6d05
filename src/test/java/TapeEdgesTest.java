/** The edges of THE TAPE: Term 1, promises 2 (feed) and 3 (end). */
public final class TapeEdgesTest extends Edges {
    private static final int[] LONGEST = new Tale().script(60, times(5992, BREAK)).bytes();

    public static void main(String[] args) {
        fullTape();
        refusedFeedBringsNothing();
        oneByteBeyond();
        lowestAndHighestBytes();
        readingEmpties();
        nothingElseEmpties();
        twentyBytesInOrder();
        endKeepsTheFirst();
        endRefuses();
        endForgetsWhatWasBehind();
        Check.finish();
    }

    private static void feedTo(StageHouse house, int size) {
        for (int i = house.count(11); i < size; i += 20) {
            house.feed(-1, -1, -1, -1, -1);
        }
    }

    private static void fullTape() {
        says("THE TAPE has at most 6000 bytes 0 .. 255");
        StageHouse house = new StageHouse();
        feedTo(house, 5980);
        due("count(11) before the last", house.count(11), 5980);
        due("the last feed", house.feed(0, 0, 0, 0, 0), 6000);
        due("feed on a full tape", house.feed(0, 0, 0, 0, 0), NONE);
        due("feed on a full tape again", house.feed(0, 0, 0, 0, 0), NONE);
        due("count(11)", house.count(11), 6000);
        Tale.put(house, new int[0]);
        Tale.put(house, LONGEST);
        due("a full tape: count(11)", house.count(11), 6000);
        due("a full tape is read to its last byte", house.play(), 1);
        house.start(60);
        for (int i = 0; i < 29; i++) {
            house.tick(200);
        }
        due("its last BREAKS", house.tick(200), 192);
        due("its end", house.count(4), 1);
    }

    private static void refusedFeedBringsNothing() {
        says("NONE, and none come, if there would be more than 6000.");
        StageHouse house = new StageHouse();
        Tale.put(house, LONGEST);
        due("feed", house.feed(-1, -1, -1, -1, -1), NONE);
        due("count(11)", house.count(11), 6000);
        due("it is the same PLAY", house.play(), 1);
        due("feed on the empty tape", house.feed(0, 0, 0, 0, 0), 20);
    }

    private static void oneByteBeyond() {
        says("if there would be more than 6000");
        for (int size = 5978; size <= 6000; size++) {
            StageHouse house = new StageHouse();
            feedTo(house, 6000);
            house.end(size);
            due("feed behind " + size, house.feed(0, 0, 0, 0, 0), size <= 5980 ? size + 20 : NONE);
            due("count(11) then", house.count(11), size <= 5980 ? size + 20 : size);
        }
    }

    private static void lowestAndHighestBytes() {
        says("THE TAPE has at most 6000 bytes 0 .. 255");
        for (int b = 0; b <= 255; b++) {
            StageHouse house = new Tale().actor(1, 0, b, 255 - b, 0).house();
            due("a byte " + b, house.actor(1, 1), b);
            due("a byte " + (255 - b), house.actor(1, 2), 255 - b);
        }
    }

    private static void readingEmpties() {
        says("a call that reads it empties it");
        StageHouse house = new StageHouse();
        Tale.put(house, new Tale().room(1).bytes());
        house.play();
        due("count(11) after one that was taken", house.count(11), 0);
        due("end(1) of the empty tape", house.end(1), false);
        due("feed", house.feed(0, 0, 0, 0, 0), 20);
        Check.dueIllegalArgument("play()", house::play);
        due("count(11) after a FAULT", house.count(11), 0);
        Check.dueIllegalArgument("play() of the empty tape", house::play);
        due("fault(1): it was empty", house.fault(1), 0);
        due("count(11)", house.count(11), 0);
        due("feed", house.feed(0, 0, 0, 0, 0), 20);
    }

    private static void nothingElseEmpties() {
        says("a call that reads it empties it");
        StageHouse house = new Tale().script(1, loop()).house();
        house.feed(1, 2, 3, 4, 5);
        house.fault(0);
        house.start(1);
        house.tick(3);
        house.keep();
        house.back();
        house.say(1, 1, 1);
        house.set(1, 1);
        house.end(-1);
        house.end(21);
        due("count(11)", house.count(11), 20);
    }

    private static void twentyBytesInOrder() {
        says("Twenty bytes come behind THE TAPE, of each number the highest first");
        StageHouse house = new StageHouse();
        // OBJECT 60 in ROOM 20 at 254, 253, STATE 252, with VERBS 255, 1, 2, 3: twenty bytes in all
        int[] numbers = {0x504c4159, 0x4f000d3c, 0x14fefdfc, 0xff3b013c, 0x023a0339};
        due("feed", house.feed(numbers[0], numbers[1], numbers[2], numbers[3], numbers[4]), 20);
        due("play()", house.play(), 1);
        int[] due = {20, 254, 253, 252, 0, 4};
        for (int what = 0; what < due.length; what++) {
            due("object(60, " + what + ")", house.object(60, what), due[what]);
        }
        due("verb 255", house.verb(60, 255), 59);
        due("verb 1", house.verb(60, 1), 60);
        due("verb 2", house.verb(60, 2), 58);
        due("verb 3", house.verb(60, 3), 57);
    }

    private static void endKeepsTheFirst() {
        says("THE TAPE has its first n bytes alone: true");
        StageHouse house = new StageHouse();
        due("end(0) of an empty tape", house.end(0), true);
        house.feed(0x504c4159, 0x52000201, 0x00ffffff, -1, -1);
        due("end(20): all of them", house.end(20), true);
        due("count(11)", house.count(11), 20);
        due("end(9)", house.end(9), true);
        due("count(11)", house.count(11), 9);
        due("its first nine are a PLAY", house.play(), 1);
        house.feed(1, 2, 3, 4, 5);
        due("end(1)", house.end(1), true);
        due("count(11)", house.count(11), 1);
        due("feed behind one byte", house.feed(1, 2, 3, 4, 5), 21);
        due("end(0)", house.end(0), true);
        due("count(11)", house.count(11), 0);
    }

    private static void endRefuses() {
        says("false if it has not so many, or n is below 0");
        StageHouse house = new StageHouse();
        int[] sizes = {0, 20, 40, 6000};
        for (int size : sizes) {
            feedTo(house, size);
            for (int n : new int[] {size + 1, size + 20, MOST, -1, -size - 1, LEAST}) {
                due("end(" + n + ") of " + size, house.end(n), false);
                due("count(11)", house.count(11), size);
            }
        }
    }

    private static void endForgetsWhatWasBehind() {
        says("false if it has not so many");
        StageHouse house = new StageHouse();
        house.feed(-1, -1, -1, -1, -1);
        house.end(7);
        for (int n = 8; n <= 20; n++) {
            due("end(" + n + ") behind end(7)", house.end(n), false);
        }
        house.end(0);
        Tale.put(house, new Tale().actor(1, 0, 0, 0, 0).bytes());
        due("bytes 0 where 255 were: play()", house.play(), 1);
        for (int what = 0; what <= 3; what++) {
            due("actor(1, " + what + ")", house.actor(1, what), 0);
        }
    }
}
