/** Promises 23 (keep) and 24 (back). */
public final class KeepTest {
    private static int[] o(int kind, int... words) {
        int[] order = {kind};
        for (int word : words) {
            order = Tale.join(order, Tale.word(word));
        }
        return order;
    }

    /** SCRIPT 1 changes something of all that runs, TICK by TICK; SCRIPT 3 CRASHES. */
    private static Tale tale() {
        int[] changes = Tale.join(Tale.order(4, Tale.global(9), Tale.word(3)), Tale.order(4, Tale.local(2),
            Tale.word(1)), Tale.order(20, Tale.global(9)), Tale.order(17, Tale.word(4), Tale.local(2)),
            o(18, 4, 2), o(21, 7, 8, 9), o(21, 9, 8, 7), Tale.order(19, Tale.word(1), Tale.word(1), Tale.local(2)),
            Tale.order(32, Tale.global(8), Tale.word(100)), o(11, 3), o(16, 2, 5), o(14, 1, 0, 0), o(11, 2),
            Tale.raw(1), Tale.order(2, Tale.jump(0)));
        return new Tale().room(1, 0, 0, 50, 50, 0, 40, 40, 60, 60, 0).actor(1, 1, 50, 50, 3)
            .actor(2, 1, 10, 10, 1).object(4, 1, 1, 1, 200).script(1, changes).script(2, o(10, 6), o(15, 1),
            o(22, 1), Tale.raw(1)).script(3, Tale.raw(99));
    }

    public static void main(String[] args) {
        nothingWasKept();
        allComesBack();
        theLatestIsKept();
        comesBackAgainAndAgain();
        aNewPlayForgets();
        theTapeIsNotKept();
        Check.finish();
    }

    private static void nothingWasKept() {
        StageHouse house = tale().house();
        house.start(1);
        house.tick(2);
        long was = look(house);
        Check.due("back()", house.back(), false);
        Check.due("nothing changed", look(house), was);
    }

    private static void allComesBack() {
        for (int before = 0; before < 12; before++) {
            StageHouse house = tale().house();
            house.start(1);
            house.tick(before);
            long was = look(house);
            Check.due("keep()", house.keep(), true);
            Check.due("keep() changes nothing", look(house), was);
            house.tick(1 + before);
            house.say(1, 2, 3);
            house.set(60, 5);
            house.start(2);
            house.walk(2, 9, 9);
            Check.due("it is another now", look(house) != was, true);
            Check.due("back()", house.back(), true);
            Check.due("all is as it was", look(house), was);
            StageHouse other = tale().house();
            other.start(1);
            other.tick(before);
            Check.due("it goes on the same", house.tick(9), other.tick(9));
            Check.due("and comes to the same", look(house), look(other));
        }
    }

    private static void theLatestIsKept() {
        StageHouse house = tale().house();
        house.start(1);
        house.keep();
        house.tick(1);
        long was = look(house);
        house.keep();
        house.tick(5);
        house.back();
        Check.due("as it was kept last", look(house), was);
        Check.due("TICK", house.count(0), 1);
    }

    private static void comesBackAgainAndAgain() {
        StageHouse house = tale().house();
        house.start(1);
        house.tick(2);
        house.keep();
        long was = look(house);
        for (int i = 0; i < 3; i++) {
            house.tick(4);
            Check.due("back()", house.back(), true);
            Check.due("the same", look(house), was);
        }
    }

    private static void aNewPlayForgets() {
        StageHouse house = tale().house();
        house.keep();
        Tale.put(house, 80, 76, 65);
        Check.dueIllegalArgument("play()", house::play);
        Check.due("one with a FAULT forgets nothing", house.back(), true);
        Tale.put(house, tale().bytes());
        house.play();
        Check.due("one that is taken does", house.back(), false);
        Check.due("keep()", house.keep(), true);
        Check.due("back()", house.back(), true);
    }

    private static void theTapeIsNotKept() {
        StageHouse house = tale().house();
        house.feed(1, 2, 3, 4, 5);
        house.keep();
        house.feed(1, 2, 3, 4, 5);
        house.back();
        Check.due("bytes on THE TAPE", house.count(11), 40);
        Check.dueIllegalArgument("play()", house::play);
        house.back();
        Check.due("the FAULT is told still", house.fault(0), 1);
        Check.due("bytes on THE TAPE", house.count(11), 0);
    }

    /** All that can be asked of what runs, folded into one number. */
    private static long look(StageHouse house) {
        long seen = 17;
        for (int what = 0; what <= 10; what++) {
            seen = seen * 31 + house.count(what);
        }
        for (int i = 0; i < 64; i++) {
            seen = seen * 31 + house.variable(i);
        }
        for (int i = 0; i < 8; i++) {
            for (int what = 0; what < 10; what++) {
                seen = seen * 31 + house.slot(i, what);
            }
        }
        for (int a = 1; a <= 2; a++) {
            for (int what = 0; what < 8; what++) {
                seen = seen * 31 + house.actor(a, what);
            }
        }
        for (int i = 0; i < house.count(2); i++) {
            for (int what = 0; what < 3; what++) {
                seen = seen * 31 + house.sentence(i, what);
            }
        }
        for (int i = 0; i < Math.min(64, house.count(3)); i++) {
            seen = seen * 31 + house.note(i);
        }
        seen = seen * 31 + house.object(4, 3);
        seen = seen * 31 + house.object(4, 4);
        return seen * 31 + 2 * house.box(1, 1, 4) + house.box(1, 0, 4);
    }
}
