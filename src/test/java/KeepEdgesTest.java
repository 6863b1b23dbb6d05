/** The edges of promises 23 (keep) and 24 (back): each thing that is kept, and when nothing is. */
public final class KeepEdgesTest extends Edges {
    /** A change of what runs. */
    interface Change {
        void make(StageHouse house);
    }

    public static void main(String[] args) {
        eachThingComesBack();
        nothingRunsComesBack();
        fullRowsComeBack();
        fullNoteBookComesBack();
        allNumbersComeBack();
        inPlaceOfWhatWas();
        againAndAgain();
        thePlayIsNotKept();
        nothingWasKept();
        sinceThePlayThatWasTaken();
        goesOnTheSame();
        Check.finish();
    }

    private static Tale tale() {
        return new Tale().room(1, 0, 0, 50, 50, 0, 51, 0, 60, 60, 1).actor(1, 1, 5, 5, 3).actor(12, 1, 50, 0, 8)
            .object(1, 1, 1, 1, 200, 1, 1).object(60, 0, 0, 0, 0)
            .script(1, o(4, l(0), w(1)), o(4, l(3), w(-1)), BREAK, o(2, j(0)))
            .script(2, note(7), END).script(3, CRASH).script(4, o(32, g(9), w(100)), END)
            .script(5, words(17, 1, 0), words(17, 60, 255), END).script(6, words(18, 1, 12), words(18, 60, 1), END)
            .script(7, words(19, 1, 0, 1), words(19, 1, 1, 0), END).script(8, words(16, 1, 8), words(13, 12, 20, 1, 1), END)
            .script(9, words(10, 9), END).script(10, words(22, 1), BREAK, END).script(11, words(14, 12, 9, 9), words(15, 12),
            END).script(12, words(12, 1), words(12, 9), words(22, 0), END).script(13, words(21, 1, 2, 3), END);
    }

    private static StageHouse house() {
        return tale().house();
    }

    private static void comesBack(String told, StageHouse house, Change change) {
        String was = look(house);
        int crashes = house.count(4);
        due(told + ": keep()", house.keep(), true);
        same(told + ": keep() changes nothing", look(house), was);
        change.make(house);
        due(told + ": it is another then", look(house).equals(was) && house.count(4) == crashes, false);
        due(told + ": back()", house.back(), true);
        same(told + ": as it was", look(house), was);
        due(told + ": CRASHES", house.count(4), crashes);
    }

    private static Change runs(int... scripts) {
        return house -> {
            for (int s : scripts) {
                house.start(s);
                house.tick(1);
            }
        };
    }

    private static void eachThingComesBack() {
        says("(TICK, VARIABLES, LUCK, SLOTS, SENTENCES, NOTES, ACTORS, STATES, OWNERS, BOXES open or SHUT, count()s 0 to 6;");
        comesBack("TICK", house(), house -> house.tick(200));
        for (int i = 0; i < 64; i++) {
            int number = i;
            comesBack("VARIABLE " + i, house(), house -> house.set(number, LEAST));
        }
        comesBack("LUCK", house(), runs(4));
        comesBack("a SLOT", house(), house -> house.start(1));
        comesBack("all SLOTS", house(), house -> {
            for (int i = 0; i < 9; i++) {
                house.start(1);
            }
        });
        comesBack("SENTENCES", house(), house -> house.say(1, 2, 3));
        comesBack("NOTES", house(), runs(2));
        comesBack("CRASHES", house(), runs(3));
        comesBack("STATES", house(), runs(5));
        comesBack("OWNERS", house(), runs(6));
        comesBack("BOXES", house(), runs(7));
        comesBack("ACTORS", house(), runs(8));
        comesBack("an ACTOR that walks", house(), house -> house.walk(12, 1, 1));
        comesBack("SPILLED", full(), house -> house.start(1));
        comesBack("SPILLED by a SENTENCE", full(), house -> house.say(1, 1, 1));
        StageHouse house = house();
        house.start(9);
        house.start(11);
        house.start(1);
        house.say(1, 1, 1);
        house.tick(1);
        comesBack("DELAY, WAITS, LOCALS, a SENTENCE's SLOT", house, runs(10, 12));
        runs(10).make(house);
        comesBack("FROZEN", house, runs(12));
        house = house();
        house.walk(1, 50, 50);
        house.tick(2);
        comesBack("on its way", house, other -> other.tick(100));
    }

    private static StageHouse full() {
        StageHouse house = house();
        for (int i = 0; i < 8; i++) {
            house.start(1);
            house.say(i, i, i);
        }
        return house;
    }

    private static void nothingRunsComesBack() {
        says("All that runs is as it was kept: true");
        StageHouse house = house();
        house.keep();
        Change all = runs(1, 2, 3, 4, 5, 6, 7, 8, 9, 11);
        all.make(house);
        house.say(1, 1, 1);
        due("back()", house.back(), true);
        same("as at first", look(house), look(house()));
        due("CRASHES", house.count(4), 0);
        Check.dueNoSuchElement("note(0)", () -> house.note(0));
        Check.dueNoSuchElement("sentence(0, 0)", () -> house.sentence(0, 0));
        for (int i = 0; i < 8; i++) {
            isFree("none ran", house, i);
        }
        StageHouse fresh = new StageHouse();
        fresh.keep();
        fresh.tick(5);
        fresh.say(1, 2, 3);
        due("of a new house", fresh.back(), true);
        due("TICK", fresh.count(0), 0);
        due("SENTENCES", fresh.count(2), 0);
    }

    private static void fullRowsComeBack() {
        says("All that runs is as it was kept: true");
        StageHouse house = full();
        comesBack("full rows", house, other -> {
            other.tick(10);
            other.start(12);
            other.tick(5);
        });
        due("SLOTS that run", house.count(1), 8);
        due("SENTENCES", house.count(2), 6);
        due("start(1)", house.start(1), NONE);
        due("say", house.say(1, 1, 1), NONE);
    }

    private static void fullNoteBookComesBack() {
        says("All that runs is as it was kept: true");
        int[] noting = Tale.join(o(4, g(9), w(1)), o(20, g(9)), BREAK, o(2, j(0)));
        for (int many : new int[] {1, 63, 64, 65, 100}) {
            StageHouse house = new Tale().script(1, noting).house();
            house.start(1);
            house.tick(many);
            comesBack(many + " NOTES", house, other -> other.tick(80));
            due("the latest", house.note(0), many);
            int oldest = Math.min(64, many) - 1;
            due("the oldest", house.note(oldest), many - oldest);
            Check.dueNoSuchElement("one before", () -> house.note(oldest + 1));
            house.tick(1);
            due("it goes on", house.note(0), many + 1);
            due("NOTES in all", house.count(3), many + 1);
        }
    }

    /** Each BOX of each ROOM, each OBJECT and each ACTOR is changed, and comes back. */
    private static void allNumbersComeBack() {
        says("ACTORS, STATES, OWNERS, BOXES open or SHUT");
        Tale tale = new Tale();
        for (int r = 1; r <= 20; r++) {
            tale.room(r, times(16, new int[] {r, 0, r, 9, r % 2}));
        }
        for (int i = 1; i <= 60; i++) {
            tale.object(i, 1, 1, 1, i);
        }
        for (int a = 1; a <= 12; a++) {
            tale.actor(a, a, a, a % 9, a % 8);
        }
        int[] boxes = Tale.join(o(19, g(10), g(11), g(12)), o(4, g(11), w(1)), o(9, g(11), w(16), j(0)), o(3, g(11), w(0)),
            o(4, g(10), w(1)), o(9, g(10), w(21), j(0)), END);
        int[] things = Tale.join(o(17, g(20), w(200)), o(18, g(20), w(12)), o(4, g(20), w(1)), o(9, g(20), w(61), j(0)), END);
        int[] people = Tale.join(o(13, g(30), w(20), w(0), w(255)), o(16, g(30), w(8)), o(14, g(30), w(7), w(7)),
            o(4, g(30), w(1)), o(9, g(30), w(13), j(0)), END);
        StageHouse house = tale.script(1, boxes).script(2, things).script(3, people).house();
        house.set(10, 1);
        house.set(20, 1);
        house.set(30, 1);
        for (int v = 0; v <= 1; v++) {
            house.set(12, v);
            comesBack("each one", house, other -> {
                other.start(1);
                other.start(2);
                other.start(3);
                other.tick(10);
                due("the last BOX", other.box(20, 15, 4), other.variable(12));
                due("the last BOX of ROOM 19", other.box(19, 15, 4), other.variable(12));
                due("the last STATE", other.object(60, 3), 200);
                due("the last OWNER", other.object(60, 4), 12);
                due("the last ACTOR's SPEED", other.actor(12, 3), 8);
                due("CRASHES", other.count(4), 0);
            });
        }
    }

    private static void inPlaceOfWhatWas() {
        says("All that runs is kept, in place of what was");
        StageHouse house = house();
        house.set(5, 1);
        due("keep()", house.keep(), true);
        house.set(5, 2);
        due("keep() again", house.keep(), true);
        house.set(5, 3);
        due("back()", house.back(), true);
        due("the later one", house.variable(5), 2);
        due("back()", house.back(), true);
        due("the first is gone", house.variable(5), 2);
    }

    private static void againAndAgain() {
        says("All that runs is as it was kept: true");
        StageHouse house = house();
        house.start(1);
        house.walk(1, 50, 50);
        house.say(9, 9, 9);
        house.tick(3);
        house.keep();
        String was = look(house);
        for (int i = 1; i <= 4; i++) {
            house.tick(10 * i);
            house.start(5);
            house.start(7);
            house.tick(1);
            due("back()", house.back(), true);
            same("time " + i, look(house), was);
        }
        due("back() at once", house.back(), true);
        same("the same", look(house), was);
    }

    private static void thePlayIsNotKept() {
        says("count()s 0 to 6; not the PLAY): true.");
        StageHouse house = house();
        house.feed(1, 2, 3, 4, 5);
        house.keep();
        house.feed(1, 2, 3, 4, 5);
        house.back();
        due("THE TAPE stays", house.count(11), 40);
        Check.dueIllegalArgument("play()", house::play);
        house.back();
        due("THE TAPE stays empty", house.count(11), 0);
        due("the FAULT stays", house.fault(0), 1);
        due("ROOMS", house.count(7), 1);
        due("SCRIPTS", house.count(8), 13);
    }

    private static void nothingWasKept() {
        says("false if nothing was since the latest play() that was taken");
        StageHouse house = house();
        runs(1, 2, 5).make(house);
        String was = look(house);
        due("back()", house.back(), false);
        same("nothing changes", look(house), was);
        due("back() again", house.back(), false);
        due("a new house", new StageHouse().back(), false);
    }

    private static void sinceThePlayThatWasTaken() {
        says("false if nothing was since the latest play() that was taken");
        StageHouse house = house();
        house.set(5, 1);
        house.keep();
        Tale.put(house, 80, 76, 65);
        Check.dueIllegalArgument("play()", house::play);
        house.set(5, 2);
        due("back() behind a FAULT", house.back(), true);
        due("VARIABLE 5", house.variable(5), 1);
        Tale.put(house, tale().bytes());
        house.play();
        String was = look(house);
        due("back() behind one that was taken", house.back(), false);
        same("nothing changes", look(house), was);
        Tale.put(house, 80, 76, 65);
        Check.dueIllegalArgument("play()", house::play);
        due("back() behind a FAULT again", house.back(), false);
        due("keep()", house.keep(), true);
        due("back()", house.back(), true);
        StageHouse fresh = new StageHouse();
        fresh.keep();
        Tale.put(fresh, new Tale().bytes());
        fresh.play();
        due("kept before the first PLAY", fresh.back(), false);
    }

    private static void goesOnTheSame() {
        says("All that runs is as it was kept: true");
        StageHouse house = full();
        StageHouse other = full();
        house.walk(1, 50, 50);
        other.walk(1, 50, 50);
        house.tick(3);
        other.tick(3);
        house.keep();
        house.tick(77);
        house.start(7);
        house.back();
        for (int i = 0; i < 20; i++) {
            due("tick(1)", house.tick(1), other.tick(1));
            same("TICK " + i, look(house), look(other));
        }
    }
}
