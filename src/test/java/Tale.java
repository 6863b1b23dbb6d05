import java.util.Arrays;

/** Writes PLAYS for tests: BLOCKS, and the VALUES, TARGETS and JUMPS of CODE. */
final class Tale {
    private int[] bytes = {80, 76, 65, 89};

    Tale block(int tag, int... inside) {
        bytes = join(bytes, new int[] {tag, inside.length >> 8, inside.length & 255}, inside);
        return this;
    }

    /** Of each BOX five numbers: x0, y0, x1, y1, SHUT. */
    Tale room(int number, int... boxes) {
        return block(82, join(new int[] {number, boxes.length / 5}, boxes));
    }

    Tale script(int number, int[]... code) {
        return block(83, join(new int[] {number}, join(code)));
    }

    Tale object(int number, int room, int x, int y, int... stateAndVerbs) {
        return block(79, join(new int[] {number, room, x, y}, stateAndVerbs));
    }

    Tale actor(int number, int room, int x, int y, int speed) {
        return block(65, number, room, x, y, speed);
    }

    int[] bytes() {
        return bytes.clone();
    }

    /** A new house that plays this. */
    StageHouse house() {
        StageHouse house = new StageHouse();
        put(house, bytes);
        house.play();
        return house;
    }

    /** THE TAPE of the house, empty before, has just these bytes then. */
    static void put(StageHouse house, int... bytes) {
        int[] padded = Arrays.copyOf(bytes, bytes.length + 20);
        for (int i = 0; i < bytes.length; i += 20) {
            house.feed(number(padded, i), number(padded, i + 4), number(padded, i + 8),
                number(padded, i + 12), number(padded, i + 16));
        }
        house.end(bytes.length);
    }

    private static int number(int[] bytes, int at) {
        return bytes[at] << 24 | bytes[at + 1] << 16 | bytes[at + 2] << 8 | bytes[at + 3];
    }

    /** An ORDER, or any row of bytes as it stands. */
    static int[] raw(int... bytes) {
        return bytes;
    }

    /** An ORDER with what stands behind it. */
    static int[] order(int kind, int[]... behind) {
        return join(new int[] {kind}, join(behind));
    }

    static int[] word(int value) {
        return new int[] {0, value >> 8 & 255, value & 255};
    }

    static int[] global(int variable) {
        return new int[] {1, variable};
    }

    static int[] local(int number) {
        return new int[] {2, number};
    }

    static int[] jump(int place) {
        return new int[] {place >> 8 & 255, place & 255};
    }

    static int[] join(int[]... parts) {
        return Arrays.stream(parts).flatMapToInt(Arrays::stream).toArray();
    }
}
