import java.util.NoSuchElementException;
import java.util.Random;

/** Runs of calls on PLAYS made by a fixed seed: StageHouse answers each as PlainHouse does. */
public final class ModelTest {
    private static final int[] EDGES = {-1, 0, 1, 255, 256, 61, 21, 13, 64, Integer.MIN_VALUE, Integer.MAX_VALUE};
    private static final String[] SHAPES = {"", "", "j", "tv", "tv", "tv", "tv", "tv", "vvj", "vvj", "v", "s",
        "s", "arxx", "axx", "a", "ap", "op", "oa", "rbp", "v", "voa", "p", "ta", "ta", "ta", "ta", "ta", "to",
        "to", "ts", "tao", "tv", "s"};

    private final Random random;
    private final StageHouse house = new StageHouse();
    private final PlainHouse plain = new PlainHouse();
    private final int run;
    private int side;

    private ModelTest(int run) {
        this.run = run;
        random = new Random(run);
    }

    public static void main(String[] args) {
        int runs = args.length > 0 ? Integer.parseInt(args[0]) : 400;
        for (int run = 1; run <= runs; run++) {
            new ModelTest(run).compare();
        }
        Check.finish();
    }

    private void compare() {
        side = 4 + random.nextInt(30);
        int plays = 1 + random.nextInt(3);
        for (int i = 0; i < plays; i++) {
            int[] bytes = tale().bytes();
            if (random.nextInt(4) == 0) {
                for (int j = 0; j <= random.nextInt(3); j++) {
                    bytes[random.nextInt(bytes.length)] = random.nextInt(256);
                }
            }
            putOnBoth(bytes);
            same("play", new int[0]);
            same("fault", new int[] {0});
            same("fault", new int[] {1});
            for (int call = 0; call < 120; call++) {
                call();
            }
            lookAtAll();
        }
    }

    private void putOnBoth(int[] bytes) {
        same("end", new int[] {0});
        for (int i = 0; i < bytes.length; i += 20) {
            int[] five = new int[5];
            for (int j = 0; j < 20 && i + j < bytes.length; j++) {
                five[j / 4] |= bytes[i + j] << 24 - 8 * (j % 4);
            }
            same("feed", five);
        }
        same("end", new int[] {bytes.length});
    }

    private void call() {
        switch (random.nextInt(24)) {
            case 0: case 1: case 2:
                same("start", new int[] {number(6)});
                break;
            case 3: case 4: case 5: case 6:
                same("tick", new int[] {random.nextInt(30) == 0 ? 20 : random.nextInt(4)});
                break;
            case 7: case 8:
                same("say", new int[] {number(4), number(4), number(9)});
                break;
            case 9: case 10: case 11:
                same("walk", new int[] {number(4), number(side + 4), number(side + 4)});
                break;
            case 12:
                same("set", new int[] {number(64), random.nextInt()});
                break;
            case 13:
                same(random.nextInt(3) == 0 ? "keep" : "back", new int[0]);
                break;
            case 14:
                same("tick", new int[] {EDGES[random.nextInt(3)]});
                break;
            default:
                ask();
                break;
        }
    }

    private void ask() {
        String[] calls = {"slot", "actor", "object", "verb", "box", "neighbours", "way", "goal", "note",
            "sentence", "count", "variable", "fault"};
        String name = calls[random.nextInt(calls.length)];
        same(name, new int[] {number(name.equals("count") ? 13 : 6), number(8), number(8)});
    }

    private void lookAtAll() {
        for (int i = 0; i < 64; i++) {
            same("variable", new int[] {i});
            same("note", new int[] {i});
        }
        for (int i = 0; i < 13; i++) {
            same("count", new int[] {i});
            for (int what = 0; what < 10; what++) {
                same("slot", new int[] {i, what});
                same("actor", new int[] {i, what});
                same("object", new int[] {i, what});
                same("sentence", new int[] {i, what});
                same("box", new int[] {1, i, what});
            }
        }
    }

    private int number(int most) {
        return random.nextInt(40) == 0 ? EDGES[random.nextInt(EDGES.length)] : random.nextInt(most + 1);
    }

    private void same(String name, int[] n) {
        StringBuilder told = new StringBuilder("run " + run + ": " + name + "(");
        for (int number : n) {
            told.append(' ').append(number);
        }
        Check.due(told.append(')').toString(), answer(true, name, n), answer(false, name, n));
    }

    /** An exception counts as a number that no call answers. */
    private long answer(boolean real, String name, int[] n) {
        try {
            return real ? ofHouse(name, n) : ofPlain(name, n);
        } catch (NoSuchElementException e) {
            return 1L << 40;
        } catch (IllegalArgumentException e) {
            return 1L << 41;
        }
    }

    private long ofHouse(String name, int[] n) {
        switch (name) {
            case "feed": return house.feed(n[0], n[1], n[2], n[3], n[4]);
            case "end": return house.end(n[0]) ? 1 : 0;
            case "play": return house.play();
            case "fault": return house.fault(n[0]);
            case "tick": return house.tick(n[0]);
            case "start": return house.start(n[0]);
            case "say": return house.say(n[0], n[1], n[2]);
            case "walk": return house.walk(n[0], n[1], n[2]) ? 1 : 0;
            case "set": return house.set(n[0], n[1]);
            case "variable": return house.variable(n[0]);
            case "slot": return house.slot(n[0], n[1]);
            case "actor": return house.actor(n[0], n[1]);
            case "object": return house.object(n[0], n[1]);
            case "verb": return house.verb(n[0], n[1]);
            case "box": return house.box(n[0], n[1], n[2]);
            case "neighbours": return house.neighbours(n[0], n[1], n[2]);
            case "way": return house.way(n[0], n[1], n[2]);
            case "goal": return house.goal(n[0], n[1], n[2]);
            case "note": return house.note(n[0]);
            case "sentence": return house.sentence(n[0], n[1]);
            case "count": return house.count(n[0]);
            case "keep": return house.keep() ? 1 : 0;
            default: return house.back() ? 1 : 0;
        }
    }

    private long ofPlain(String name, int[] n) {
        switch (name) {
            case "feed": return plain.feed(n);
            case "end": return plain.end(n[0]) ? 1 : 0;
            case "play": return plain.play();
            case "fault": return plain.fault(n[0]);
            case "tick": return plain.tick(n[0]);
            case "start": return plain.start(n[0]);
            case "say": return plain.say(n[0], n[1], n[2]);
            case "walk": return plain.walk(n[0], n[1], n[2]) ? 1 : 0;
            case "set": return plain.set(n[0], n[1]);
            case "variable": return plain.variable(n[0]);
            case "slot": return plain.slot(n[0], n[1]);
            case "actor": return plain.actor(n[0], n[1]);
            case "object": return plain.object(n[0], n[1]);
            case "verb": return plain.verb(n[0], n[1]);
            case "box": return plain.box(n[0], n[1], n[2]);
            case "neighbours": return plain.neighbours(n[0], n[1], n[2]);
            case "way": return plain.way(n[0], n[1], n[2]);
            case "goal": return plain.goal(n[0], n[1], n[2]);
            case "note": return plain.note(n[0]);
            case "sentence": return plain.sentence(n[0], n[1]);
            case "count": return plain.count(n[0]);
            case "keep": return plain.keep() ? 1 : 0;
            default: return plain.back() ? 1 : 0;
        }
    }

    private Tale tale() {
        Tale tale = new Tale();
        int rooms = 1 + random.nextInt(2);
        for (int r = 1; r <= rooms; r++) {
            int[] boxes = new int[5 * random.nextInt(17)];
            for (int i = 0; i < boxes.length; i += 5) {
                boxes[i] = random.nextInt(side);
                boxes[i + 1] = random.nextInt(side);
                boxes[i + 2] = boxes[i] + random.nextInt(6);
                boxes[i + 3] = boxes[i + 1] + random.nextInt(6);
                boxes[i + 4] = random.nextInt(6) == 0 ? 1 : 0;
            }
            tale.room(r, boxes);
        }
        for (int a = 1; a <= 3; a++) {
            tale.actor(a, random.nextInt(rooms + 1), random.nextInt(side), random.nextInt(side), random.nextInt(9));
        }
        for (int o = 1; o <= 3; o++) {
            tale.object(o, random.nextInt(rooms + 1), random.nextInt(side), random.nextInt(side),
                random.nextInt(256), 1, 1 + random.nextInt(6), random.nextInt(2) == 0 ? 255 : 2, 1 + random.nextInt(6));
        }
        for (int s = 1; s <= 5; s++) {
            tale.script(s, code());
        }
        return tale;
    }

    private int[] code() {
        int orders = 1 + random.nextInt(12);
        int[] places = new int[orders + 1];
        int[][] made = new int[orders][];
        for (int i = 0; i < orders; i++) {
            made[i] = order(new int[orders + 1], i);
            places[i + 1] = places[i] + made[i].length;
        }
        // JUMPS are laid a second time, now that the ORDERS' places are known; lengths do not change
        for (int i = 0; i < orders; i++) {
            int behind = made[i].length;
            if (made[i][0] == 2 || made[i][0] == 8 || made[i][0] == 9) {
                int to = places[random.nextInt(orders + (random.nextInt(20) == 0 ? 1 : 0))];
                made[i][behind - 2] = to >> 8;
                made[i][behind - 1] = to & 255;
            }
        }
        int[] code = Tale.join(made);
        if (random.nextInt(20) == 0) {
            code[random.nextInt(code.length)] = random.nextInt(256);
        }
        return code;
    }

    private int[] order(int[] places, int at) {
        int[] often = {0, 1, 1, 2, 10, 14, 14, 15, 20, 26, 31, 21, 19, 13, 32};
        int kind = random.nextInt(3) == 0 ? often[random.nextInt(often.length)] : random.nextInt(34);
        int[] order = {kind};
        for (char wanted : SHAPES[kind].toCharArray()) {
            order = Tale.join(order, wanted == 't' ? holder() : wanted == 'j' ? Tale.jump(places[at])
                : value(wanted));
        }
        return order;
    }

    private int[] holder() {
        return random.nextInt(2) == 0 ? Tale.local(random.nextInt(4)) : Tale.global(random.nextInt(12));
    }

    private int[] value(char wanted) {
        if (random.nextInt(12) == 0) {
            return holder();
        }
        if (random.nextInt(60) == 0) {
            return Tale.word(random.nextInt(65536) - 32768);
        }
        switch (wanted) {
            case 's': return Tale.word(random.nextInt(7));
            case 'a': case 'o': return Tale.word(random.nextInt(20) == 0 ? random.nextInt(5) : 1 + random.nextInt(3));
            case 'r': return Tale.word(1 + random.nextInt(2));
            case 'b': return Tale.word(random.nextInt(6));
            case 'x': return Tale.word(random.nextInt(side));
            case 'p': return Tale.word(random.nextInt(9));
            default: return random.nextInt(3) == 0 ? holder() : Tale.word(random.nextInt(21) - 5);
        }
    }
}
