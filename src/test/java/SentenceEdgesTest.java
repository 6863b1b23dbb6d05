/** The edges of SENTENCES and their ROW: Term 2, promises 8 (say) and 21 (sentence). */
public final class SentenceEdgesTest extends Edges {
    public static void main(String[] args) {
        sixAtMost();
        anyNumbers();
        noneSuch();
        emptyRow();
        firstComesFirst();
        roomInAFullRow();
        heldBack();
        heldBackByFrozenOrDelayed();
        notHeldBackByOthers();
        freeAgain();
        scriptOfTheVerb();
        noSlotFree();
        oneInATick();
        newPlay();
        Check.finish();
    }

    /** OBJECT 1: VERB 1 goes on and on, 2 ends, 3 is not there, 255 NOTES; OBJECT 2: VERB 1 ends; 3: none. */
    private static Tale tale() {
        return new Tale().object(1, 0, 0, 0, 0, 1, 1, 2, 2, 3, 40, 255, 5).object(2, 0, 0, 0, 0, 1, 2)
            .object(3, 0, 0, 0, 0).object(60, 0, 0, 0, 0, 255, 2).script(1, loop()).script(2, note(2), END)
            .script(5, note(5), END);
    }

    private static void sixAtMost() {
        says("A SENTENCE (any numbers) comes behind the ROW: how many there are; NONE: there are 6 (one SPILLED more).");
        StageHouse house = new StageHouse();
        due("SENTENCES at first", house.count(2), 0);
        for (int i = 1; i <= 6; i++) {
            due("say " + i, house.say(i, 10 + i, 20 + i), i);
            due("SENTENCES", house.count(2), i);
            due("SPILLED", house.count(5), 0);
        }
        for (int i = 1; i <= 3; i++) {
            due("say on a full ROW", house.say(99, 99, 99), NONE);
            due("SENTENCES", house.count(2), 6);
            due("SPILLED", house.count(5), i);
        }
        for (int i = 1; i <= 6; i++) {
            due("the ROW is as it was", house.sentence(i - 1, 0), i);
            due("the ROW is as it was", house.sentence(i - 1, 2), 20 + i);
        }
    }

    private static void anyNumbers() {
        says("A SENTENCE (any numbers) comes behind the ROW");
        int[] numbers = {LEAST, -1, 0, 256, 65536, MOST};
        StageHouse house = tale().house();
        for (int i = 0; i < 6; i++) {
            due("say", house.say(numbers[i], numbers[5 - i], numbers[(i + 2) % 6]), i + 1);
        }
        for (int i = 0; i < 6; i++) {
            due("VERB", house.sentence(i, 0), numbers[i]);
            due("OBJECT", house.sentence(i, 1), numbers[5 - i]);
            due("other", house.sentence(i, 2), numbers[(i + 2) % 6]);
        }
        for (int i = 0; i < 6; i++) {
            due("nothing is STARTED", house.tick(1), 0);
            due("VARIABLE 1", house.variable(1), numbers[i]);
            due("VARIABLE 2", house.variable(2), numbers[5 - i]);
            due("VARIABLE 3", house.variable(3), numbers[(i + 2) % 6]);
            due("VARIABLE 0", house.variable(0), i + 1);
        }
    }

    private static void noneSuch() {
        says("Number what (0 VERB, 1 OBJECT, 2 other) of SENTENCE i of the ROW. NoSuchElementException: there is none such.");
        StageHouse house = new StageHouse();
        for (int many = 0; many <= 6; many++) {
            int behind = many;
            for (int what = -1; what <= 3; what++) {
                int asked = what;
                Check.dueNoSuchElement("sentence(" + behind + ", " + what + ")", () -> house.sentence(behind, asked));
                Check.dueNoSuchElement("sentence(-1, " + what + ")", () -> house.sentence(-1, asked));
                Check.dueNoSuchElement("sentence(least, " + what + ")", () -> house.sentence(LEAST, asked));
                Check.dueNoSuchElement("sentence(most, " + what + ")", () -> house.sentence(MOST, asked));
            }
            if (many > 0) {
                for (int what : new int[] {LEAST, -1, 3, 256, MOST}) {
                    Check.dueNoSuchElement("sentence(0, " + what + ")", () -> house.sentence(0, what));
                    Check.dueNoSuchElement("the last one's " + what, () -> house.sentence(behind - 1, what));
                }
                due("the last one", house.sentence(many - 1, 0), many - 1);
            }
            house.say(many, 0, 0);
        }
    }

    private static void emptyRow() {
        says("and there is a SENTENCE, the first one is taken");
        StageHouse house = tale().house();
        house.set(1, 1);
        house.set(2, 2);
        house.set(3, 3);
        due("tick(5) with an empty ROW", house.tick(5), 0);
        for (int i = 1; i <= 3; i++) {
            due("VARIABLE " + i + " stays", house.variable(i), i);
        }
        due("SENTENCES", house.count(2), 0);
        due("running", house.count(1), 0);
    }

    private static void firstComesFirst() {
        says("the first one is taken: VARIABLES 1, 2, 3 are its VERB, OBJECT, other number");
        StageHouse house = new StageHouse();
        for (int i = 1; i <= 6; i++) {
            house.say(i, 70 + i, -i);
        }
        for (int i = 1; i <= 6; i++) {
            house.tick(1);
            due("VARIABLE 1", house.variable(1), i);
            due("VARIABLE 2", house.variable(2), 70 + i);
            due("VARIABLE 3", house.variable(3), -i);
            due("VARIABLE 4", house.variable(4), 0);
            due("SENTENCES", house.count(2), 6 - i);
            for (int k = 0; k < 6 - i; k++) {
                due("sentence(" + k + ", 0)", house.sentence(k, 0), i + 1 + k);
                due("sentence(" + k + ", 1)", house.sentence(k, 1), 71 + i + k);
                due("sentence(" + k + ", 2)", house.sentence(k, 2), -i - 1 - k);
            }
            int behind = 6 - i;
            Check.dueNoSuchElement("one behind the ROW", () -> house.sentence(behind, 0));
        }
    }

    private static void roomInAFullRow() {
        says("a ROW of SENTENCES, at most 6");
        StageHouse house = new StageHouse();
        for (int i = 0; i < 6; i++) {
            house.say(i, i, i);
        }
        house.tick(1);
        due("one has room", house.say(6, 6, 6), 6);
        due("a second has none", house.say(7, 7, 7), NONE);
        due("it is the last", house.sentence(5, 1), 6);
        house.tick(6);
        due("SENTENCES", house.count(2), 0);
        due("VARIABLE 1", house.variable(1), 6);
        due("say in the empty ROW", house.say(8, 8, 8), 1);
        due("SPILLED", house.count(5), 1);
    }

    private static void heldBack() {
        says("If no SLOT runs what a SENTENCE STARTED");
        StageHouse house = tale().house();
        house.say(1, 1, 0);
        house.say(2, 1, 0);
        due("the first is STARTED, and BREAKS", house.tick(1), 1);
        due("a SENTENCE STARTED it", house.slot(0, 5), 1);
        for (int i = 0; i < 5; i++) {
            due("the second is held back", house.tick(1), 2);
            due("SENTENCES", house.count(2), 1);
            due("VARIABLE 1", house.variable(1), 1);
        }
        due("say comes behind it", house.say(3, 3, 3), 2);
    }

    private static void heldBackByFrozenOrDelayed() {
        says("If no SLOT runs what a SENTENCE STARTED");
        StageHouse house = tale().script(9, words(22, 1), BREAK, BREAK, BREAK).script(10, words(10, 3), END)
            .object(9, 0, 0, 0, 0, 1, 10).house();
        house.say(1, 1, 0);
        house.tick(1);
        house.start(9);
        house.say(2, 1, 0);
        house.tick(1);
        due("it is FROZEN", house.slot(0, 4), 1);
        due("FROZEN, it runs all the same", house.tick(1), 1);
        due("SENTENCES", house.count(2), 1);
        StageHouse other = tale().script(10, words(10, 3), END).object(9, 0, 0, 0, 0, 1, 10).house();
        other.say(1, 9, 0);
        other.say(2, 1, 0);
        due("DELAY", other.tick(1), 1);
        due("held back", other.tick(2), 0);
        due("SENTENCES", other.count(2), 1);
        due("END", other.tick(1), 1);
        due("SENTENCES", other.count(2), 1);
        due("taken a TICK later", other.tick(1), 2);
        due("SENTENCES", other.count(2), 0);
    }

    private static void notHeldBackByOthers() {
        says("If no SLOT runs what a SENTENCE STARTED");
        StageHouse house = tale().script(9, words(11, 1), END).object(9, 0, 0, 0, 0, 1, 9).house();
        house.start(1);
        house.say(2, 1, 0);
        due("one that start() STARTED holds nothing back", house.tick(1), 3);
        due("SENTENCES", house.count(2), 0);
        house.say(1, 9, 0);
        house.say(2, 1, 0);
        due("it STARTS SCRIPT 1 by 11, and ENDS", house.tick(1), 5);
        due("slot(2, 0)", house.slot(2, 0), 1);
        due("an ORDER STARTED that", house.slot(2, 5), 0);
        house.tick(1);
        due("it holds nothing back", house.count(2), 0);
        due("NOTES", house.count(3), 2);
    }

    private static void freeAgain() {
        says("If no SLOT runs what a SENTENCE STARTED");
        int[][] ways = {END, CRASH, words(12, 9), words(33, 59)};
        for (int[] way : ways) {
            StageHouse house = tale().script(9, BREAK, way).object(9, 0, 0, 0, 0, 1, 9).house();
            house.say(1, 9, 0);
            house.say(2, 1, 0);
            house.tick(2);
            due("free by ORDER " + way[0], house.count(1), 0);
            due("slot(0, 5)", house.slot(0, 5), 0);
            due("SENTENCES", house.count(2), 1);
            due("taken now", house.tick(1), 2);
            due("SENTENCES", house.count(2), 0);
        }
        StageHouse house = tale().script(9, words(12, 1), END).house();
        house.say(1, 1, 0);
        house.say(2, 1, 0);
        house.tick(1);
        house.start(9);
        house.tick(1);
        due("another SCRIPT freed it", house.slot(0, 0), 0);
        house.start(1);
        due("slot(0, 5)", house.slot(0, 5), 0);
        house.tick(1);
        due("SENTENCES", house.count(2), 0);
    }

    private static void scriptOfTheVerb() {
        says("of the OBJECT, if there is one, the SCRIPT of the VERB, or else of VERB 255, is STARTED, if it has one");
        // VERB, OBJECT, and the SCRIPT that is STARTED
        int[][] rows = {{1, 1, 1}, {2, 1, 2}, {3, 1, 0}, {4, 1, 5}, {255, 1, 5}, {0, 1, 5}, {-1, 1, 5}, {256, 1, 5},
            {257, 1, 5}, {LEAST, 1, 5}, {MOST, 1, 5}, {1, 2, 2}, {2, 2, 0}, {255, 2, 0}, {1, 3, 0}, {255, 3, 0},
            {1, 60, 2}, {255, 60, 2}, {0, 60, 2}, {1, 4, 0}, {1, 0, 0}, {1, -1, 0}, {1, 61, 0}, {1, 257, 0},
            {255, LEAST, 0}, {255, MOST, 0}};
        for (int[] row : rows) {
            StageHouse house = tale().house();
            house.say(row[0], row[1], 0);
            String told = "VERB " + row[0] + ", OBJECT " + row[1];
            due(told + ": ORDERS", house.tick(1), row[2] == 0 ? 0 : row[2] == 1 ? 1 : 2);
            due(told + ": SLOT 0", house.slot(0, 0), row[2] == 1 ? 1 : 0);
            due(told + ": NOTES", house.count(3), row[2] > 1 ? 1 : 0);
            due(told + ": taken", house.count(2), 0);
            due(told + ": SPILLED", house.count(5), 0);
            if (row[2] > 1) {
                due(told + ": NOTE", house.note(0), row[2]);
            }
        }
    }

    private static void noSlotFree() {
        says("nothing happens if there is no such SCRIPT, or no SLOT free (one SPILLED more)");
        StageHouse house = tale().house();
        for (int i = 0; i < 8; i++) {
            house.start(1);
        }
        house.say(1, 1, 0);
        house.say(3, 1, 0);
        house.say(1, 3, 0);
        house.say(1, 1, 0);
        int[] spilled = {1, 1, 1, 2, 2};
        for (int i = 0; i < spilled.length; i++) {
            house.tick(1);
            due("SPILLED", house.count(5), spilled[i]);
            due("taken all the same", house.count(2), Math.max(0, 3 - i));
        }
        for (int i = 0; i < 8; i++) {
            due("slot(" + i + ", 5)", house.slot(i, 5), 0);
        }
    }

    private static void oneInATick() {
        says("the first one is taken");
        StageHouse house = tale().house();
        for (int i = 0; i < 3; i++) {
            house.say(2, 1, i);
        }
        due("tick(1): one is taken, though it ENDS", house.tick(1), 2);
        due("SENTENCES", house.count(2), 2);
        due("tick(2)", house.tick(2), 4);
        due("SENTENCES", house.count(2), 0);
        due("VARIABLE 3", house.variable(3), 2);
    }

    private static void newPlay() {
        says("as it is at first, TICK 0, nothing runs");
        StageHouse house = tale().house();
        for (int i = 0; i < 7; i++) {
            house.say(1, 1, 1);
        }
        house.tick(1);
        Tale.put(house, tale().bytes());
        house.play();
        due("SENTENCES", house.count(2), 0);
        due("SPILLED", house.count(5), 0);
        Check.dueNoSuchElement("sentence(0, 0)", () -> house.sentence(0, 0));
        due("say", house.say(2, 1, 5), 1);
        due("what a SENTENCE STARTED runs no more", house.tick(1), 2);
    }
}
