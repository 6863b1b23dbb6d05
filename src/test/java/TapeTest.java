/** Promises 2 (feed) and 3 (end), and THE TAPE's limit. */
public final class TapeTest {
    public static void main(String[] args) {
        feedsTwentyBytes();
        keepsToItsLimit();
        endsWhereTold();
        highestByteComesFirst();
        feedsBehindAnUnevenEnd();
        Check.finish();
    }

    private static void feedsTwentyBytes() {
        StageHouse house = new StageHouse();
        Check.due("count(11) of a new one", house.count(11), 0);
        Check.due("feed", house.feed(1, 2, 3, 4, 5), 20);
        Check.due("feed again", house.feed(-1, -2, -3, -4, -5), 40);
        Check.due("count(11)", house.count(11), 40);
    }

    private static void keepsToItsLimit() {
        StageHouse house = new StageHouse();
        for (int i = 1; i <= 300; i++) {
            Check.due("feed " + i, house.feed(i, i, i, i, i), 20 * i);
        }
        Check.due("feed beyond 6000", house.feed(1, 1, 1, 1, 1), StageHouse.NONE);
        Check.due("count(11) is as it was", house.count(11), 6000);
        Check.due("end(5981)", house.end(5981), true);
        Check.due("feed to 6001", house.feed(1, 1, 1, 1, 1), StageHouse.NONE);
        Check.due("count(11) is 5981", house.count(11), 5981);
        Check.due("end(5980)", house.end(5980), true);
        Check.due("feed to 6000", house.feed(1, 1, 1, 1, 1), 6000);
    }

    private static void endsWhereTold() {
        StageHouse house = new StageHouse();
        Check.due("end(0) of an empty tape", house.end(0), true);
        Check.due("end(1) of an empty tape", house.end(1), false);
        house.feed(0, 0, 0, 0, 0);
        Check.due("end(-1)", house.end(-1), false);
        Check.due("end(21)", house.end(21), false);
        Check.due("end(least)", house.end(Integer.MIN_VALUE), false);
        Check.due("end(most)", house.end(Integer.MAX_VALUE), false);
        Check.due("count(11) is 20", house.count(11), 20);
        Check.due("end(20)", house.end(20), true);
        Check.due("end(7)", house.end(7), true);
        Check.due("count(11) is 7", house.count(11), 7);
        Check.due("end(8)", house.end(8), false);
    }

    private static void highestByteComesFirst() {
        StageHouse house = new StageHouse();
        // 80 76 65 89, an ACTOR 12 in ROOM 20 at 255, 254, SPEED 8
        house.feed(0x504c4159, 0x4100050c, 0x14fffe08, 0, 0);
        house.end(12);
        Check.due("play()", house.play(), 1);
        Check.due("actor(12, 0)", house.actor(12, 0), 20);
        Check.due("actor(12, 1)", house.actor(12, 1), 255);
        Check.due("actor(12, 2)", house.actor(12, 2), 254);
        Check.due("actor(12, 3)", house.actor(12, 3), 8);
    }

    private static void feedsBehindAnUnevenEnd() {
        for (int cut = 0; cut <= 12; cut++) {
            StageHouse house = new StageHouse();
            int[] bytes = new Tale().actor(12, 20, 255, 254, 8).bytes();
            Tale.put(house, bytes);
            house.feed(-1, -1, -1, -1, -1);
            house.end(cut);
            int[] behind = new int[20];
            System.arraycopy(bytes, cut, behind, 0, bytes.length - cut);
            house.feed(number(behind, 0), number(behind, 4), number(behind, 8), number(behind, 12),
                number(behind, 16));
            house.end(bytes.length);
            Check.due("play() of a tape fed in two, cut at " + cut, house.play(), 1);
            Check.due("its actor's y", house.actor(12, 2), 254);
        }
    }

    private static int number(int[] bytes, int at) {
        return bytes[at] << 24 | bytes[at + 1] << 16 | bytes[at + 2] << 8 | bytes[at + 3];
    }
}
