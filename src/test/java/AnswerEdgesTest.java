/** The edges of what is asked: promises 1 (a new object), 10, 11, 14, 15, 20 and 22, and Term 2's stores. */
public final class AnswerEdgesTest extends Edges {
    public static void main(String[] args) {
        newObject();
        newObjectRefuses();
        variables();
        refusedVariables();
        objects();
        refusedObjects();
        verbs();
        noVerbs();
        emptyNoteBook();
        fullNoteBook();
        notesInAll();
        refusedNotes();
        counts();
        countsSincePlay();
        refusedCounts();
        Check.finish();
    }

    private static void newObject() {
        says("No PLAY: no ROOMS, SCRIPTS, OBJECTS, ACTORS; nothing runs.");
        StageHouse house = new StageHouse();
        for (int what = 0; what <= 11; what++) {
            due("count(" + what + ")", house.count(what), what == 6 ? 1 : 0);
        }
        for (int i = 0; i < 8; i++) {
            isFree("a new house", house, i);
        }
        for (int n = 0; n <= 60; n++) {
            due("start(" + n + ")", house.start(n), NONE);
            due("box(" + n + ", 0, 0)", house.box(n, 0, 0), NONE);
            due("verb(" + n + ", 255)", house.verb(n, 255), 0);
            due("walk(" + n + ", 0, 0)", house.walk(n, 0, 0), false);
        }
        due("tick(200)", house.tick(200), 0);
        due("TICK", house.count(0), 200);
        due("another new house has a TICK of its own", new StageHouse().count(0), 0);
    }

    private static void newObjectRefuses() {
        says("No PLAY: no ROOMS, SCRIPTS, OBJECTS, ACTORS; nothing runs.");
        StageHouse house = new StageHouse();
        Check.dueIllegalArgument("play()", house::play);
        due("fault(0)", house.fault(0), 1);
        due("fault(1)", house.fault(1), 0);
        due("end(0)", house.end(0), true);
        due("end(1)", house.end(1), false);
        due("way(1, 0, 0)", house.way(1, 0, 0), NONE);
        due("neighbours(1, 0, 0)", house.neighbours(1, 0, 0), NONE);
        due("goal(1, 0, 0)", house.goal(1, 0, 0), NONE);
        due("back()", house.back(), false);
        Check.dueNoSuchElement("actor(1, 0)", () -> house.actor(1, 0));
        Check.dueNoSuchElement("object(1, 0)", () -> house.object(1, 0));
        Check.dueNoSuchElement("note(0)", () -> house.note(0));
        Check.dueNoSuchElement("sentence(0, 0)", () -> house.sentence(0, 0));
    }

    private static void variables() {
        says("VARIABLES 0 .. 63, ints, at first 0");
        StageHouse house = new StageHouse();
        for (int i = 0; i < 64; i++) {
            due("variable(" + i + ") at first", house.variable(i), 0);
        }
        says("A VARIABLE becomes v: what it was.");
        for (int i = 0; i < 64; i++) {
            due("set(" + i + ", least)", house.set(i, LEAST + i), 0);
            due("set(" + i + ", most)", house.set(i, MOST - i), LEAST + i);
        }
        for (int i = 0; i < 64; i++) {
            due("variable(" + i + ")", house.variable(i), MOST - i);
        }
    }

    private static void refusedVariables() {
        says("A VARIABLE becomes v: what it was. NoSuchElementException: there is none such.");
        StageHouse house = new StageHouse();
        String was = look(house);
        for (int i : new int[] {LEAST, -64, -1, 64, 65, 256, 65536, MOST}) {
            Check.dueNoSuchElement("set(" + i + ", 5)", () -> house.set(i, 5));
        }
        same("nothing was set", look(house), was);
        says("A VARIABLE. NoSuchElementException: there is none such.");
        for (int i : new int[] {LEAST, -64, -1, 64, 65, 256, 65536, MOST}) {
            Check.dueNoSuchElement("variable(" + i + ")", () -> house.variable(i));
        }
    }

    private static void objects() {
        says("Of OBJECT o, what 0: ROOM, 1: x, 2: y, 3: STATE, 4: OWNER, 5: how many VERBS.");
        StageHouse house = new Tale().object(1, 0, 0, 255, 255).object(60, 20, 255, 0, 0, 255, 60).house();
        int[] first = {0, 0, 255, 255, 0, 0};
        int[] last = {20, 255, 0, 0, 0, 1};
        for (int what = 0; what <= 5; what++) {
            due("object(1, " + what + ")", house.object(1, what), first[what]);
            due("object(60, " + what + ")", house.object(60, what), last[what]);
        }
    }

    private static void refusedObjects() {
        says("NoSuchElementException: no such OBJECT, another what.");
        StageHouse house = new Tale().object(1, 0, 0, 0, 0).object(60, 0, 0, 0, 0).house();
        for (int thing : new int[] {LEAST, -1, 0, 2, 59, 61, 256 + 1, MOST}) {
            for (int what = -1; what <= 6; what++) {
                int asked = what;
                Check.dueNoSuchElement("object(" + thing + ", " + what + ")", () -> house.object(thing, asked));
            }
        }
        for (int what : new int[] {LEAST, -1, 6, 7, 256, MOST}) {
            Check.dueNoSuchElement("object(1, " + what + ")", () -> house.object(1, what));
            Check.dueNoSuchElement("object(60, " + what + ")", () -> house.object(60, what));
        }
    }

    private static void verbs() {
        says("The SCRIPT that an OBJECT has for a VERB");
        int[] stateAndVerbs = new int[511];
        for (int i = 0; i < 255; i++) {
            stateAndVerbs[1 + 2 * i] = 255 - i;
            stateAndVerbs[2 + 2 * i] = 1 + i % 60;
        }
        StageHouse house = new Tale().object(60, 0, 0, 0, stateAndVerbs).object(1, 0, 0, 0, 0, 1, 60, 255, 1).house();
        for (int verb = 1; verb <= 255; verb++) {
            due("verb(60, " + verb + ")", house.verb(60, verb), 1 + (255 - verb) % 60);
        }
        due("verb(1, 1)", house.verb(1, 1), 60);
        due("verb(1, 255)", house.verb(1, 255), 1);
    }

    private static void noVerbs() {
        says("0 if it has none, or there is no such OBJECT");
        StageHouse house = new Tale().object(1, 0, 0, 0, 9, 7, 60, 255, 5).object(60, 0, 0, 0, 0).house();
        for (int verb : new int[] {LEAST, -1, 0, 1, 5, 9, 60, 254, 256, 256 + 7, MOST}) {
            due("verb(1, " + verb + "): VERB 255 is another", house.verb(1, verb), 0);
            due("verb(60, " + verb + ")", house.verb(60, verb), 0);
        }
        for (int thing : new int[] {LEAST, -1, 0, 2, 59, 61, 256 + 1, MOST}) {
            due("verb(" + thing + ", 7)", house.verb(thing, 7), 0);
            due("verb(" + thing + ", 255)", house.verb(thing, 255), 0);
        }
    }

    private static StageHouse houseWithNotes(int many) {
        StageHouse house = new Tale().script(1, o(4, g(9), w(1)), o(20, g(9)), o(9, g(9), g(10), j(0)), END).house();
        house.set(10, many);
        if (many > 0) {
            house.start(1);
            house.tick(200);
        }
        return house;
    }

    private static void emptyNoteBook() {
        says("The i-th latest NOTE (0: the latest). NoSuchElementException: there are not so many.");
        StageHouse house = houseWithNotes(0);
        due("NOTES", house.count(3), 0);
        for (int i : new int[] {LEAST, -1, 0, 1, 63, 64, MOST}) {
            Check.dueNoSuchElement("note(" + i + ")", () -> house.note(i));
        }
    }

    private static void fullNoteBook() {
        says("a NOTE book of the latest 64 NOTES (ints)");
        for (int many : new int[] {1, 2, 63, 64, 65, 66, 127, 128, 129, 1000}) {
            StageHouse house = houseWithNotes(many);
            int there = Math.min(64, many);
            for (int i = 0; i < there; i++) {
                due("of " + many + ": note(" + i + ")", house.note(i), many - i);
            }
            Check.dueNoSuchElement("of " + many + ": note(" + there + ")", () -> house.note(there));
            Check.dueNoSuchElement("of " + many + ": note(" + many + ")", () -> house.note(many));
        }
    }

    private static void notesInAll() {
        says("3: NOTES in all");
        for (int many : new int[] {1, 63, 64, 65, 1000, 5000}) {
            due("count(3)", houseWithNotes(many).count(3), many);
        }
    }

    private static void refusedNotes() {
        says("NoSuchElementException: there are not so many.");
        StageHouse house = houseWithNotes(100);
        for (int i : new int[] {LEAST, -64, -1, 64, 65, 99, 100, 128, MOST}) {
            Check.dueNoSuchElement("note(" + i + ")", () -> house.note(i));
        }
    }

    private static void counts() {
        says("What 0: TICK, 1: SLOTS that run, 2: SENTENCES, 3: NOTES in all, 4: CRASHES, 5: SPILLED, 6: LUCK");
        StageHouse house = new Tale().room(20).script(1, note(1), o(32, l(0), w(2)), BREAK, END).script(60, CRASH)
            .object(60, 0, 0, 0, 0).actor(12, 0, 0, 0, 0).house();
        int[] none = {0, 0, 0, 0, 0, 0, 1, 1, 2, 1, 1, 0};
        for (int what = 0; what <= 11; what++) {
            due("at first count(" + what + ")", house.count(what), none[what]);
        }
        for (int i = 0; i < 9; i++) {
            house.start(i == 3 ? 60 : 1);
            house.say(9, 9, 9);
        }
        house.feed(0, 0, 0, 0, 0);
        int luck = 1;
        for (int i = 0; i < 7; i++) {
            luck = luck * 1103515245 + 12345;
        }
        int[] full = {0, 8, 6, 0, 0, 4, 1, 1, 2, 1, 1, 20};
        for (int what = 0; what <= 11; what++) {
            due("full: count(" + what + ")", house.count(what), full[what]);
        }
        house.tick(1);
        int[] then = {1, 7, 5, 7, 1, 4, luck, 1, 2, 1, 1, 20};
        for (int what = 0; what <= 11; what++) {
            due("a TICK later: count(" + what + ")", house.count(what), then[what]);
        }
    }

    private static void countsSincePlay() {
        says("(3 to 6 since play())");
        Tale tale = new Tale().script(1, note(1), o(32, l(0), w(2)), CRASH);
        StageHouse house = tale.house();
        for (int i = 0; i < 9; i++) {
            house.start(1);
        }
        house.tick(1);
        due("NOTES", house.count(3), 8);
        due("CRASHES", house.count(4), 8);
        due("SPILLED", house.count(5), 1);
        Tale.put(house, tale.bytes());
        house.play();
        int[] due = {0, 0, 0, 1};
        for (int what = 3; what <= 6; what++) {
            due("count(" + what + ")", house.count(what), due[what - 3]);
        }
        Check.dueNoSuchElement("note(0)", () -> house.note(0));
        house.start(1);
        house.tick(1);
        due("NOTES", house.count(3), 1);
        due("LUCK", house.count(6), 1103527590);
        Check.dueNoSuchElement("note(1)", () -> house.note(1));
    }

    private static void refusedCounts() {
        says("NONE for another what.");
        StageHouse house = new Tale().room(1).house();
        for (int what : new int[] {LEAST, -1, 12, 13, 256, MOST}) {
            due("count(" + what + ")", house.count(what), NONE);
            due("of a new house", new StageHouse().count(what), NONE);
        }
    }
}
