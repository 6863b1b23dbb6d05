/** Promises 8 (say) and 21 (sentence), and how a TICK takes a SENTENCE. */
public final class SentenceTest {
    private static final int[] BREAK = Tale.raw(1);
    private static final int[] END = Tale.raw(0);

    public static void main(String[] args) {
        waitsInARow();
        isTakenInOrder();
        startsTheScriptOfItsVerb();
        waitsForTheOneBefore();
        mayFindNoSlot();
        comesFromScripts();
        chainsGoOn();
        Check.finish();
    }

    private static void waitsInARow() {
        StageHouse house = new Tale().house();
        for (int i = 0; i < 6; i++) {
            Check.due("say", house.say(i, -i, Integer.MIN_VALUE + i), i + 1);
        }
        Check.due("say a seventh", house.say(9, 9, 9), -1);
        Check.due("SPILLED", house.count(5), 1);
        Check.due("say an eighth", house.say(9, 9, 9), -1);
        Check.due("SPILLED", house.count(5), 2);
        Check.due("SENTENCES", house.count(2), 6);
        for (int i = 0; i < 6; i++) {
            Check.due("VERB " + i, house.sentence(i, 0), i);
            Check.due("OBJECT " + i, house.sentence(i, 1), -i);
            Check.due("other " + i, house.sentence(i, 2), Integer.MIN_VALUE + i);
        }
        Check.dueNoSuchElement("sentence(6, 0)", () -> house.sentence(6, 0));
        Check.dueNoSuchElement("sentence(-1, 0)", () -> house.sentence(-1, 0));
        Check.dueNoSuchElement("sentence(0, 3)", () -> house.sentence(0, 3));
        Check.dueNoSuchElement("sentence(0, -1)", () -> house.sentence(0, -1));
        Check.dueNoSuchElement("sentence(most, most)",
            () -> house.sentence(Integer.MAX_VALUE, Integer.MAX_VALUE));
    }

    private static void isTakenInOrder() {
        StageHouse house = new Tale().house();
        for (int i = 1; i <= 6; i++) {
            house.say(10 * i, 20 * i, 30 * i);
        }
        for (int i = 1; i <= 6; i++) {
            Check.due("tick(1)", house.tick(1), 0);
            Check.due("VARIABLE 0", house.variable(0), i);
            Check.due("VARIABLE 1", house.variable(1), 10 * i);
            Check.due("VARIABLE 2", house.variable(2), 20 * i);
            Check.due("VARIABLE 3", house.variable(3), 30 * i);
            Check.due("VARIABLE 4", house.variable(4), 0);
            Check.due("SENTENCES", house.count(2), 6 - i);
            if (i < 6) {
                Check.due("the first one then", house.sentence(0, 1), 20 * i + 20);
            }
        }
        house.set(1, 5);
        house.tick(1);
        Check.due("no SENTENCE: VARIABLE 1 stays", house.variable(1), 5);
        Check.due("say then", house.say(1, 1, 1), 1);
    }

    /** OBJECT 1 has VERBS 1, 2 (a SCRIPT that is not there) and 255; OBJECT 2 has VERB 1; 3 has none. */
    private static Tale tale() {
        return new Tale().script(1, note(11), BREAK, END).script(5, note(55), END)
            .object(1, 0, 0, 0, 0, 1, 1, 2, 40, 255, 5).object(2, 0, 0, 0, 0, 1, 1).object(3, 0, 0, 0, 0);
    }

    private static int[] note(int number) {
        return Tale.order(20, Tale.word(number));
    }

    private static void startsTheScriptOfItsVerb() {
        int[][] sentences = {{1, 1, 1}, {3, 1, 5}, {255, 1, 5}, {2, 1, 0}, {0, 1, 5}, {-1, 1, 5},
            {1, 2, 1}, {3, 2, 0}, {255, 2, 0}, {1, 3, 0}, {1, 4, 0}, {1, 0, 0}, {1, 61, 0}, {1, -7, 0},
            {Integer.MAX_VALUE, 1, 5}, {256 + 1, 1, 5}, {1, 256 + 1, 0}};
        for (int[] told : sentences) {
            StageHouse house = tale().house();
            house.say(told[0], told[1], 99);
            String said = "say " + told[0] + ", " + told[1];
            house.tick(1);
            Check.due(said + ": NOTES", house.count(3), told[2] == 0 ? 0 : 1);
            if (told[2] != 0) {
                Check.due(said + ": the NOTE", house.note(0), 11 * told[2]);
            }
            Check.due(said + ": it was taken", house.count(2), 0);
            Check.due(said + ": CRASHES", house.count(4), 0);
            Check.due(said + ": SPILLED", house.count(5), 0);
            Check.due(said + ": running", house.count(1), told[2] == 1 ? 1 : 0);
        }
    }

    private static void waitsForTheOneBefore() {
        StageHouse house = tale().house();
        house.start(1);
        house.say(1, 1, 0);
        house.say(1, 2, 0);
        Check.due("one that start() started does not count", house.tick(1), 4);
        Check.due("slot(0, 5)", house.slot(0, 5), 0);
        Check.due("slot(1, 5)", house.slot(1, 5), 1);
        Check.due("SENTENCES", house.count(2), 1);
        Check.due("it runs yet: none is taken", house.tick(1), 2);
        Check.due("SENTENCES", house.count(2), 1);
        Check.due("slot(1, 5) of a free one", house.slot(1, 5), 0);
        Check.due("taken now", house.tick(1), 2);
        Check.due("SENTENCES", house.count(2), 0);
        Check.due("VARIABLE 2", house.variable(2), 2);
        Check.due("slot(0, 5)", house.slot(0, 5), 1);
    }

    private static void mayFindNoSlot() {
        int[] loop = Tale.join(BREAK, Tale.order(2, Tale.jump(0)));
        StageHouse house = tale().script(2, loop).house();
        for (int i = 0; i < 8; i++) {
            house.start(2);
        }
        house.say(1, 1, 0);
        house.say(9, 9, 0);
        house.tick(1);
        Check.due("SPILLED", house.count(5), 1);
        Check.due("it was taken", house.count(2), 1);
        house.tick(1);
        Check.due("so is the next", house.count(2), 0);
        Check.due("SPILLED", house.count(5), 1);
    }

    private static void comesFromScripts() {
        int[] say = Tale.order(21, Tale.word(1), Tale.word(2), Tale.word(-3));
        int[] seven = Tale.join(say, say, say, say, say, say, say);
        StageHouse house = tale().script(3, seven, BREAK).house();
        house.start(3);
        Check.due("all ORDERS are done", house.tick(1), 8);
        Check.due("SENTENCES", house.count(2), 6);
        Check.due("SPILLED", house.count(5), 1);
        Check.due("sentence(5, 2)", house.sentence(5, 2), -3);
        house.tick(1);
        Check.due("slot(1, 5)", house.slot(1, 5), 1);
        Check.due("VARIABLE 3", house.variable(3), -3);
    }

    private static void chainsGoOn() {
        StageHouse house = new Tale().script(1, Tale.order(33, Tale.word(2))).script(2, BREAK, END)
            .object(1, 0, 0, 0, 0, 1, 1).house();
        house.say(1, 1, 1);
        house.say(1, 1, 2);
        Check.due("tick(1)", house.tick(1), 2);
        Check.due("the SLOT runs SCRIPT 2", house.slot(0, 0), 2);
        Check.due("a SENTENCE STARTED it", house.slot(0, 5), 1);
        house.tick(1);
        Check.due("none was taken", house.count(2), 1);
    }
}
