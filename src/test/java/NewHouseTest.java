/** Promise 1: a new object has no PLAY, and nothing runs. Also the constant. */
public final class NewHouseTest {
    public static void main(String[] args) {
        Check.due("NONE", StageHouse.NONE, -1);
        countsNothing();
        hasNothing();
        takesCallsAllTheSame();
        playsWhatTheReadmeTells();
        walksAsTheReadmeTells();
        Check.finish();
    }

    private static void countsNothing() {
        StageHouse house = new StageHouse();
        for (int what = 0; what <= 11; what++) {
            Check.due("count(" + what + ")", house.count(what), what == 6 ? 1 : 0);
        }
        Check.due("count(12)", house.count(12), -1);
        Check.due("count(-1)", house.count(-1), -1);
    }

    private static void hasNothing() {
        StageHouse house = new StageHouse();
        for (int i = 0; i < 64; i++) {
            Check.due("variable(" + i + ")", house.variable(i), 0);
        }
        for (int n = -1; n <= 61; n++) {
            int number = n;
            Check.dueNoSuchElement("actor(" + n + ", 0)", () -> house.actor(number, 0));
            Check.dueNoSuchElement("object(" + n + ", 0)", () -> house.object(number, 0));
            Check.due("verb(" + n + ", 1)", house.verb(n, 1), 0);
            Check.due("box(" + n + ", 0, 0)", house.box(n, 0, 0), -1);
            Check.due("neighbours(" + n + ", 0, 0)", house.neighbours(n, 0, 0), -1);
            Check.due("way(" + n + ", 0, 0)", house.way(n, 0, 0), -1);
            Check.due("goal(" + n + ", 0, 0)", house.goal(n, 0, 0), -1);
            Check.due("walk(" + n + ", 0, 0)", house.walk(n, 0, 0), false);
            Check.due("start(" + n + ")", house.start(n), -1);
        }
        for (int i = 0; i < 8; i++) {
            for (int what = 0; what <= 9; what++) {
                Check.due("slot(" + i + ", " + what + ")", house.slot(i, what), 0);
            }
        }
        Check.dueNoSuchElement("note(0)", () -> house.note(0));
        Check.dueNoSuchElement("sentence(0, 0)", () -> house.sentence(0, 0));
        Check.due("fault(0)", house.fault(0), 0);
        Check.due("back()", house.back(), false);
        Check.due("count(5): a SCRIPT that is not there spills nothing", house.count(5), 0);
    }

    private static void takesCallsAllTheSame() {
        StageHouse house = new StageHouse();
        Check.due("say", house.say(7, 8, 9), 1);
        Check.due("tick(200)", house.tick(200), 0);
        Check.due("count(0)", house.count(0), 200);
        Check.due("variable(0)", house.variable(0), 200);
        Check.due("variable(1)", house.variable(1), 7);
        Check.due("variable(2)", house.variable(2), 8);
        Check.due("variable(3)", house.variable(3), 9);
        Check.due("set(5, 6)", house.set(5, 6), 0);
        Check.due("keep()", house.keep(), true);
        house.set(5, 7);
        Check.due("back()", house.back(), true);
        Check.due("variable(5)", house.variable(5), 6);
    }

    private static void playsWhatTheReadmeTells() {
        StageHouse house = new StageHouse();
        house.feed(0x504c4159, 0x53000601, 0x14000007, 0, 0);
        Check.due("end(13)", house.end(13), true);
        Check.due("play()", house.play(), 1);
        Check.due("start(1)", house.start(1), 0);
        Check.due("tick(1)", house.tick(1), 2);
        Check.due("note(0)", house.note(0), 7);
    }

    private static void walksAsTheReadmeTells() {
        StageHouse house = new StageHouse();
        house.feed(0x504c4159, 0x52000701, 0x01000064, 0x32004100, 0x0501010a);
        Check.due("feed", house.feed(0x0a040000, 0, 0, 0, 0), 40);
        Check.due("end(22)", house.end(22), true);
        Check.due("play()", house.play(), 2);
        Check.due("goal(1, 200, 13)", house.goal(1, 200, 13), 25613);
        Check.due("walk(1, 20, 13)", house.walk(1, 20, 13), true);
        Check.due("tick(3)", house.tick(3), 0);
        Check.due("x", house.actor(1, 1), 20);
        Check.due("y", house.actor(1, 2), 12);
        Check.due("walks", house.actor(1, 4), 1);
        Check.due("keep()", house.keep(), true);
        house.tick(1);
        Check.due("y", house.actor(1, 2), 13);
        Check.due("walks no more", house.actor(1, 4), 0);
        Check.due("back()", house.back(), true);
        Check.due("y", house.actor(1, 2), 12);
    }
}
