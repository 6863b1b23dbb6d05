/** What the tests of edges have in common: short names for CODE and for what is asked of a house. */
abstract class Edges {
    static final int NONE = StageHouse.NONE;
    static final int LEAST = Integer.MIN_VALUE;
    static final int MOST = Integer.MAX_VALUE;
    static final int[] END = {0};
    static final int[] BREAK = {1};
    /** No ORDER: a SLOT that comes here CRASHES. */
    static final int[] CRASH = {99};

    static void says(String sentence) {
        Check.says(sentence);
    }

    static void due(String call, long got, long want) {
        Check.due(call, got, want);
    }

    static void due(String call, boolean got, boolean want) {
        Check.due(call, got, want);
    }

    static int[] w(int value) {
        return Tale.word(value);
    }

    static int[] g(int variable) {
        return Tale.global(variable);
    }

    static int[] l(int number) {
        return Tale.local(number);
    }

    static int[] j(int place) {
        return Tale.jump(place);
    }

    /** An ORDER with what stands behind it, as it is. */
    static int[] o(int kind, int[]... behind) {
        return Tale.order(kind, behind);
    }

    /** An ORDER with WORDS behind it. */
    static int[] words(int kind, int... words) {
        int[] order = {kind};
        for (int word : words) {
            order = Tale.join(order, w(word));
        }
        return order;
    }

    static int[] note(int word) {
        return o(20, w(word));
    }

    static int[] times(int many, int[] code) {
        int[] all = new int[0];
        for (int i = 0; i < many; i++) {
            all = Tale.join(all, code);
        }
        return all;
    }

    static int[] loop() {
        return Tale.join(BREAK, o(2, j(0)));
    }

    /** Of ACTOR a: x, y, and whether it walks. */
    static void stands(String told, StageHouse house, int a, int x, int y, int walks) {
        due(told + ": x of " + a, house.actor(a, 1), x);
        due(told + ": y of " + a, house.actor(a, 2), y);
        due(told + ": whether " + a + " walks", house.actor(a, 4), walks);
    }

    static void isFree(String told, StageHouse house, int slot) {
        for (int what = 0; what <= 9; what++) {
            due(told + ": slot(" + slot + ", " + what + ")", house.slot(slot, what), 0);
        }
    }

    /**
     * All that can be asked of what runs, but for the CRASHES. These are more than 512 calls: what is asked
     * of the house behind them the document leaves free, but this class answers on as before.
     */
    static String look(StageHouse house) {
        StringBuilder seen = new StringBuilder();
        for (int what = 0; what <= 10; what++) {
            seen.append(what == 4 ? 0 : house.count(what)).append(' ');
        }
        for (int i = 0; i < 64; i++) {
            seen.append(house.variable(i)).append(' ');
        }
        for (int i = 0; i < Math.min(64, house.count(3)); i++) {
            seen.append(house.note(i)).append(' ');
        }
        for (int i = 0; i < 3 * house.count(2); i++) {
            seen.append(house.sentence(i / 3, i % 3)).append(' ');
        }
        for (int i = 0; i < 80; i++) {
            seen.append(house.slot(i / 10, i % 10)).append(' ');
        }
        lookAtNumbers(house, seen);
        return seen.toString();
    }

    private static void lookAtNumbers(StageHouse house, StringBuilder seen) {
        for (int n = 1; n <= 60; n++) {
            for (int what = 0; what <= 7; what++) {
                int number = n;
                int asked = what;
                seen.append(orNone(() -> house.actor(number, asked))).append(' ');
                seen.append(orNone(() -> house.object(number, asked))).append(' ');
            }
            for (int b = 0; b < 16; b++) {
                seen.append(house.box(n, b, 4)).append(' ');
            }
        }
    }

    private static int orNone(Check.Call call) {
        try {
            return call.answer();
        } catch (java.util.NoSuchElementException e) {
            return NONE;
        }
    }

    static void same(String told, String got, String want) {
        due(told + ": " + got + " as " + want, got.equals(want), true);
    }
}
