import java.util.ArrayDeque;
import java.util.ArrayList;
import java.util.Arrays;
import java.util.Deque;
import java.util.HashMap;
import java.util.List;
import java.util.Map;
import java.util.NoSuchElementException;
import java.util.TreeMap;

/**
 * The document told a second time, as slowly and as plainly as it can be: with maps and lists, and with
 * GROUND point by point. ModelTest asks it and StageHouse the same.
 */
final class PlainHouse {
    private static final class Crash extends RuntimeException {
        private static final long serialVersionUID = 1L;
    }

    private static final class Fault extends RuntimeException {
        private static final long serialVersionUID = 1L;
        final int kind;
        final int place;

        Fault(int kind, int place) {
            this.kind = kind;
            this.place = place;
        }
    }

    /** What a PLAY tells; none of it ever changes. */
    private static final class Told {
        final Map<Integer, List<int[]>> rooms = new TreeMap<>();
        final Map<Integer, int[]> scripts = new TreeMap<>();
        final Map<Integer, int[]> objects = new TreeMap<>();
        final Map<Integer, Map<Integer, Integer>> verbs = new HashMap<>();
        final Map<Integer, int[]> actors = new TreeMap<>();
        int blocks;
    }

    /** What runs. A SLOT is {script, place, delay, waits, frozen, said, four locals}. */
    private static final class Runs {
        int tick;
        int luck = 1;
        int crashes;
        int spilled;
        int[] variables = new int[64];
        int[][] slots = new int[8][10];
        List<int[]> sentences = new ArrayList<>();
        List<Integer> notes = new ArrayList<>();
        /** ROOM, x, y, SPEED, walks, to x, to y. */
        Map<Integer, int[]> actors = new TreeMap<>();
        Map<Integer, Integer> states = new HashMap<>();
        Map<Integer, Integer> owners = new HashMap<>();
        Map<Integer, Boolean> shut = new HashMap<>();

        Runs copy() {
            Runs other = new Runs();
            other.tick = tick;
            other.luck = luck;
            other.crashes = crashes;
            other.spilled = spilled;
            other.variables = variables.clone();
            for (int i = 0; i < 8; i++) {
                other.slots[i] = slots[i].clone();
            }
            other.sentences = new ArrayList<>(sentences);
            other.notes = new ArrayList<>(notes);
            actors.forEach((a, numbers) -> other.actors.put(a, numbers.clone()));
            other.states.putAll(states);
            other.owners.putAll(owners);
            other.shut.putAll(shut);
            return other;
        }
    }

    private final List<Integer> tape = new ArrayList<>();
    private Told told = new Told();
    private Runs now = new Runs();
    private Runs kept;
    private int fault;
    private int faultPlace;

    int feed(int... numbers) {
        if (tape.size() + 20 > 6000) {
            return -1;
        }
        for (int number : numbers) {
            for (byte b : java.nio.ByteBuffer.allocate(4).putInt(number).array()) {
                tape.add(Byte.toUnsignedInt(b));
            }
        }
        return tape.size();
    }

    boolean end(int n) {
        if (n < 0 || n > tape.size()) {
            return false;
        }
        tape.subList(n, tape.size()).clear();
        return true;
    }

    int play() {
        int[] bytes = tape.stream().mapToInt(Integer::intValue).toArray();
        tape.clear();
        Told read;
        try {
            read = read(bytes);
        } catch (Fault found) {
            fault = found.kind;
            faultPlace = found.place;
            throw new IllegalArgumentException();
        }
        fault = 0;
        faultPlace = 0;
        told = read;
        kept = null;
        now = new Runs();
        told.actors.forEach((a, t) -> now.actors.put(a, new int[] {t[0], t[1], t[2], t[3], 0, -1, -1}));
        told.objects.forEach((o, t) -> now.states.put(o, t[3]));
        told.objects.forEach((o, t) -> now.owners.put(o, 0));
        told.rooms.forEach((r, boxes) -> {
            for (int b = 0; b < boxes.size(); b++) {
                now.shut.put(100 * r + b, boxes.get(b)[4] == 1);
            }
        });
        return told.blocks;
    }

    private static Told read(int[] bytes) {
        int[] mark = {80, 76, 65, 89};
        for (int i = 0; i < 4; i++) {
            if (i >= bytes.length || bytes[i] != mark[i]) {
                throw new Fault(1, i);
            }
        }
        Told read = new Told();
        int at = 4;
        while (at < bytes.length) {
            char tag = (char) bytes[at];
            if ("RSOA".indexOf(tag) < 0) {
                throw new Fault(2, at);
            }
            if (at + 2 >= bytes.length || at + 3 + 256 * bytes[at + 1] + bytes[at + 2] > bytes.length) {
                throw new Fault(3, at);
            }
            int end = at + 3 + 256 * bytes[at + 1] + bytes[at + 2];
            Deque<int[]> inside = new ArrayDeque<>();
            for (int i = at + 3; i < end; i++) {
                inside.add(new int[] {bytes[i], i});
            }
            readBlock(read, tag, inside, end);
            if (!inside.isEmpty()) {
                throw new Fault(4, inside.peek()[1]);
            }
            read.blocks++;
            at = end;
        }
        return read;
    }

    private static int take(Deque<int[]> inside, int end, int least, int most) {
        if (inside.isEmpty()) {
            throw new Fault(4, end);
        }
        int[] taken = inside.poll();
        if (taken[0] < least || taken[0] > most) {
            throw new Fault(4, taken[1]);
        }
        return taken[0];
    }

    private static int takeNew(Deque<int[]> inside, int end, int most, Map<Integer, ?> known) {
        int place = inside.isEmpty() ? end : inside.peek()[1];
        int number = take(inside, end, 1, most);
        if (known.containsKey(number)) {
            throw new Fault(4, place);
        }
        return number;
    }

    private static void readBlock(Told read, char tag, Deque<int[]> inside, int end) {
        if (tag == 'R') {
            int number = takeNew(inside, end, 20, read.rooms);
            List<int[]> boxes = new ArrayList<>();
            read.rooms.put(number, boxes);
            int many = take(inside, end, 0, 16);
            for (int i = 0; i < many; i++) {
                int x0 = take(inside, end, 0, 255);
                int y0 = take(inside, end, 0, 255);
                int x1 = take(inside, end, x0, 255);
                int y1 = take(inside, end, y0, 255);
                boxes.add(new int[] {x0, y0, x1, y1, take(inside, end, 0, 1)});
            }
        } else if (tag == 'S') {
            int number = takeNew(inside, end, 60, read.scripts);
            if (inside.isEmpty()) {
                throw new Fault(4, end);
            }
            read.scripts.put(number, inside.stream().mapToInt(b -> b[0]).toArray());
            inside.clear();
        } else if (tag == 'O') {
            int number = takeNew(inside, end, 60, read.objects);
            int room = take(inside, end, 0, 20);
            int x = take(inside, end, 0, 255);
            int y = take(inside, end, 0, 255);
            read.objects.put(number, new int[] {room, x, y, take(inside, end, 0, 255)});
            Map<Integer, Integer> verbs = new HashMap<>();
            read.verbs.put(number, verbs);
            while (!inside.isEmpty()) {
                int verb = takeNew(inside, end, 255, verbs);
                verbs.put(verb, take(inside, end, 1, 60));
            }
        } else {
            int number = takeNew(inside, end, 12, read.actors);
            int room = take(inside, end, 0, 20);
            int x = take(inside, end, 0, 255);
            int y = take(inside, end, 0, 255);
            read.actors.put(number, new int[] {room, x, y, take(inside, end, 0, 8)});
        }
    }

    int fault(int what) {
        return what == 0 ? fault : what == 1 ? faultPlace : -1;
    }

    int tick(int n) {
        if (n < 0 || n > 200) {
            return -1;
        }
        int done = 0;
        for (int i = 0; i < n; i++) {
            now.variables[0] = ++now.tick;
            boolean busy = Arrays.stream(now.slots).anyMatch(s -> s[0] > 0 && s[5] == 1);
            if (!busy && !now.sentences.isEmpty()) {
                int[] said = now.sentences.remove(0);
                now.variables[1] = said[0];
                now.variables[2] = said[1];
                now.variables[3] = said[2];
                Map<Integer, Integer> verbs = told.verbs.getOrDefault(said[1], Map.of());
                Integer script = verbs.getOrDefault(said[0], verbs.get(255));
                if (script != null) {
                    begin(script, 1);
                }
            }
            for (int s = 0; s < 8; s++) {
                done += turn(s);
            }
            for (int[] actor : now.actors.values()) {
                for (int step = 0; step < actor[3]; step++) {
                    if (actor[4] == 1) {
                        step(actor);
                    }
                }
            }
        }
        return done;
    }

    int start(int s) {
        return begin(s, 0);
    }

    private int begin(int script, int said) {
        if (!told.scripts.containsKey(script)) {
            return -1;
        }
        for (int i = 0; i < 8; i++) {
            if (now.slots[i][0] == 0) {
                now.slots[i] = new int[] {script, 0, 0, 0, 0, said, 0, 0, 0, 0};
                return i;
            }
        }
        now.spilled++;
        return -1;
    }

    private int turn(int s) {
        int[] slot = now.slots[s];
        if (slot[0] == 0 || slot[4] == 1) {
            return 0;
        }
        if (slot[2] > 0 && --slot[2] > 0) {
            return 0;
        }
        if (slot[3] != 0 && now.actors.get(slot[3])[4] == 1) {
            return 0;
        }
        slot[3] = 0;
        for (int done = 1; done <= 300; done++) {
            try {
                if (!goesOn(s, slot)) {
                    return done;
                }
            } catch (Crash crash) {
                now.slots[s] = new int[10];
                now.crashes++;
                return done - 1;
            }
        }
        return 300;
    }

    private int next(int[] slot) {
        int[] code = told.scripts.get(slot[0]);
        if (slot[1] >= code.length) {
            throw new Crash();
        }
        return code[slot[1]++];
    }

    /** {the row, the place in it} */
    private Object[] target(int[] slot, int kind) {
        int number = next(slot);
        if (kind == 1 && number < 64) {
            return new Object[] {now.variables, number};
        }
        if (kind == 2 && number < 4) {
            return new Object[] {slot, 6 + number};
        }
        throw new Crash();
    }

    private static int get(Object[] target) {
        return ((int[]) target[0])[(int) target[1]];
    }

    private static void put(Object[] target, int value) {
        ((int[]) target[0])[(int) target[1]] = value;
    }

    private int value(int[] slot) {
        int kind = next(slot);
        if (kind == 0) {
            int high = next(slot);
            int word = 256 * high + next(slot);
            return word >= 32768 ? word - 65536 : word;
        }
        return get(target(slot, kind));
    }

    private static void ask(boolean holds) {
        if (!holds) {
            throw new Crash();
        }
    }

    private int[] actorThere(int a) {
        ask(now.actors.containsKey(a));
        return now.actors.get(a);
    }

    /** One ORDER: whether the TURN goes on. */
    private boolean goesOn(int s, int[] slot) {
        String[] shapes = {"", "", "j", "tv", "tv", "tv", "tv", "tv", "vvj", "vvj", "v", "v", "v", "vvvv",
            "vvv", "v", "vv", "vv", "vv", "vvv", "v", "vvv", "v", "tv", "tv", "tv", "tv", "tv", "tv", "tv",
            "tv", "tvv", "tv", "v"};
        int order = next(slot);
        ask(order < shapes.length);
        List<Integer> v = new ArrayList<>();
        Object[] t = null;
        int jump = 0;
        for (char wanted : shapes[order].toCharArray()) {
            if (wanted == 'v') {
                v.add(value(slot));
            } else if (wanted == 't') {
                t = target(slot, next(slot));
            } else {
                int high = next(slot);
                jump = 256 * high + next(slot);
                ask(jump < told.scripts.get(slot[0]).length);
            }
        }
        if (t != null) {
            put(t, answer(order, get(t), v));
            return true;
        }
        return flows(s, slot, order, v, jump) && changes(order, v);
    }

    private int answer(int order, int was, List<Integer> v) {
        int first = v.get(0);
        switch (order) {
            case 3: return first;
            case 4: return was + first;
            case 5: return was - first;
            case 6: return was * first;
            case 7:
                ask(first != 0);
                return (int) ((long) was / first);
            case 23: return actorThere(first)[1];
            case 24: return actorThere(first)[2];
            case 25: return actorThere(first)[0];
            case 26: return boxOf(actorThere(first));
            case 27: return actorThere(first)[4];
            case 28:
                ask(told.objects.containsKey(first));
                return now.states.get(first);
            case 29:
                ask(told.objects.containsKey(first));
                return now.owners.get(first);
            case 30: return (int) Arrays.stream(now.slots).filter(s -> s[0] > 0 && s[0] == first).count();
            case 31:
                int[] actor = actorThere(first);
                ask(told.objects.containsKey(v.get(1)));
                int[] thing = told.objects.get(v.get(1));
                return thing[0] != actor[0] ? 999
                    : Math.abs(thing[1] - actor[1]) + Math.abs(thing[2] - actor[2]);
            default:
                now.luck = now.luck * 1103515245 + 12345;
                return first > 0 ? (now.luck & 0x7fffffff) % first : 0;
        }
    }

    /** The ORDERS for SLOTS: whether the TURN goes on. */
    private boolean flows(int s, int[] slot, int order, List<Integer> v, int jump) {
        switch (order) {
            case 0:
                now.slots[s] = new int[10];
                return false;
            case 1: return false;
            case 2:
                slot[1] = jump;
                return true;
            case 8:
                slot[1] = v.get(0).intValue() == v.get(1) ? jump : slot[1];
                return true;
            case 9:
                slot[1] = v.get(0) < v.get(1) ? jump : slot[1];
                return true;
            case 10:
                slot[2] = v.get(0) > 0 ? v.get(0) : slot[2];
                return false;
            case 11:
                begin(v.get(0), 0);
                return true;
            case 12:
                for (int i = 0; i < 8; i++) {
                    now.slots[i] = now.slots[i][0] == v.get(0) ? new int[10] : now.slots[i];
                }
                return now.slots[s][0] != 0;
            case 15:
                actorThere(v.get(0));
                slot[3] = v.get(0);
                return false;
            case 22:
                for (int i = 0; i < 8; i++) {
                    now.slots[i][4] = v.get(0) != 0 && i != s && now.slots[i][0] > 0 ? 1 : 0;
                }
                return true;
            case 33:
                if (!told.scripts.containsKey(v.get(0))) {
                    now.slots[s] = new int[10];
                    return false;
                }
                slot[0] = v.get(0);
                slot[1] = 0;
                return true;
            default: return true;
        }
    }

    private static boolean point(int x, int y) {
        return x >= 0 && x <= 255 && y >= 0 && y <= 255;
    }

    private boolean changes(int order, List<Integer> v) {
        switch (order) {
            case 13: {
                int[] actor = actorThere(v.get(0));
                ask(v.get(1) >= 0 && v.get(1) <= 20 && point(v.get(2), v.get(3)));
                now.actors.put(v.get(0), new int[] {v.get(1), v.get(2), v.get(3), actor[3], 0, -1, -1});
                break;
            }
            case 14:
                ask(walk(v.get(0), v.get(1), v.get(2)));
                break;
            case 16:
                actorThere(v.get(0));
                ask(v.get(1) >= 0 && v.get(1) <= 8);
                actorThere(v.get(0))[3] = v.get(1);
                break;
            case 17:
                ask(told.objects.containsKey(v.get(0)) && v.get(1) >= 0 && v.get(1) <= 255);
                now.states.put(v.get(0), v.get(1));
                break;
            case 18:
                ask(told.objects.containsKey(v.get(0)));
                ask(v.get(1) == 0 || told.actors.containsKey(v.get(1)));
                now.owners.put(v.get(0), v.get(1));
                break;
            case 19:
                ask(hasBox(v.get(0), v.get(1)));
                now.shut.put(100 * v.get(0) + v.get(1), v.get(2) != 0);
                break;
            case 20:
                now.notes.add(0, v.get(0));
                break;
            case 21:
                say(v.get(0), v.get(1), v.get(2));
                break;
            default:
                break;
        }
        return true;
    }

    int say(int verb, int object, int other) {
        if (now.sentences.size() == 6) {
            now.spilled++;
            return -1;
        }
        now.sentences.add(new int[] {verb, object, other});
        return now.sentences.size();
    }

    boolean walk(int a, int x, int y) {
        if (!now.actors.containsKey(a) || !point(x, y)) {
            return false;
        }
        int[] actor = now.actors.get(a);
        actor[4] = 1;
        actor[5] = x;
        actor[6] = y;
        return true;
    }

    private boolean hasBox(int r, int b) {
        return told.rooms.containsKey(r) && b >= 0 && b < told.rooms.get(r).size();
    }

    private boolean isOpen(int r, int b) {
        return hasBox(r, b) && !now.shut.get(100 * r + b);
    }

    private boolean has(int r, int b, int x, int y) {
        int[] box = told.rooms.get(r).get(b);
        return box[0] <= x && x <= box[2] && box[1] <= y && y <= box[3];
    }

    private int boxOf(int[] actor) {
        for (int b = 0; b < 16; b++) {
            if (isOpen(actor[0], b) && has(actor[0], b, actor[1], actor[2])) {
                return b;
            }
        }
        return -1;
    }

    int neighbours(int r, int b, int c) {
        if (!hasBox(r, b) || !hasBox(r, c)) {
            return -1;
        }
        int[] box = told.rooms.get(r).get(b);
        for (int x = box[0]; x <= box[2]; x++) {
            for (int y = box[1]; y <= box[3]; y++) {
                if (has(r, c, x, y) || has(r, c, x + 1, y) || has(r, c, x - 1, y) || has(r, c, x, y + 1)
                    || has(r, c, x, y - 1)) {
                    return 1;
                }
            }
        }
        return 0;
    }

    int way(int r, int b, int c) {
        if (!isOpen(r, b) || !isOpen(r, c)) {
            return -1;
        }
        Map<Integer, Integer> far = new HashMap<>(Map.of(b, 1));
        for (int boxes = 1; boxes <= 16; boxes++) {
            for (int from = 0; from < 16; from++) {
                for (int to = 0; to < 16; to++) {
                    if (far.getOrDefault(from, 0) == boxes && isOpen(r, to) && !far.containsKey(to)
                        && neighbours(r, from, to) == 1) {
                        far.put(to, boxes + 1);
                    }
                }
            }
        }
        return far.getOrDefault(c, 0);
    }

    /** x', y' and its BOX; null without a BOX. */
    private int[] goalOf(int[] actor, int x, int y) {
        int own = boxOf(actor);
        int[] best = null;
        long least = Long.MAX_VALUE;
        for (int b = 0; own >= 0 && b < 16; b++) {
            if (!isOpen(actor[0], b) || way(actor[0], own, b) <= 0) {
                continue;
            }
            int[] box = told.rooms.get(actor[0]).get(b);
            for (int px = box[0]; px <= box[2]; px++) {
                for (int py = box[1]; py <= box[3]; py++) {
                    long square = (long) (x - px) * (x - px) + (long) (y - py) * (y - py);
                    if (square < least) {
                        least = square;
                        best = new int[] {px, py, b};
                    }
                }
            }
        }
        return best;
    }

    int goal(int a, int x, int y) {
        if (!now.actors.containsKey(a) || !point(x, y)) {
            return -1;
        }
        int[] found = goalOf(now.actors.get(a), x, y);
        return found == null ? -1 : 256 * found[0] + found[1];
    }

    private void step(int[] actor) {
        int r = actor[0];
        int own = boxOf(actor);
        int[] found = goalOf(actor, actor[5], actor[6]);
        if (found == null || found[0] == actor[1] && found[1] == actor[2]) {
            actor[4] = 0;
            actor[5] = -1;
            actor[6] = -1;
            return;
        }
        int next = own;
        int[] to = found;
        if (!has(r, own, found[0], found[1])) {
            int boxes = way(r, own, found[2]);
            next = 0;
            while (!isOpen(r, next) || neighbours(r, own, next) != 1 || way(r, next, found[2]) != boxes - 1) {
                next++;
            }
            to = nearest(told.rooms.get(r).get(next), actor[1], actor[2]);
        }
        int x = actor[1] + (to[0] > actor[1] ? 1 : -1);
        if (to[0] != actor[1] && (has(r, own, x, actor[2]) || has(r, next, x, actor[2]))) {
            actor[1] = x;
        } else if (to[1] != actor[2]) {
            actor[2] += to[1] > actor[2] ? 1 : -1;
        }
    }

    private static int[] nearest(int[] box, int x, int y) {
        int[] best = {box[0], box[1]};
        for (int px = box[0]; px <= box[2]; px++) {
            best[0] = Math.abs(px - x) < Math.abs(best[0] - x) ? px : best[0];
        }
        for (int py = box[1]; py <= box[3]; py++) {
            best[1] = Math.abs(py - y) < Math.abs(best[1] - y) ? py : best[1];
        }
        return best;
    }

    private static void there(boolean is) {
        if (!is) {
            throw new NoSuchElementException();
        }
    }

    int set(int i, int v) {
        int was = variable(i);
        now.variables[i] = v;
        return was;
    }

    int variable(int i) {
        there(i >= 0 && i < 64);
        return now.variables[i];
    }

    int slot(int i, int what) {
        return i < 0 || i > 7 || what < 0 || what > 9 ? -1 : now.slots[i][what];
    }

    int actor(int a, int what) {
        there(now.actors.containsKey(a) && what >= 0 && what <= 7);
        return what == 7 ? boxOf(now.actors.get(a)) : now.actors.get(a)[what];
    }

    int object(int o, int what) {
        there(told.objects.containsKey(o) && what >= 0 && what <= 5);
        return what < 3 ? told.objects.get(o)[what] : what == 3 ? now.states.get(o)
            : what == 4 ? now.owners.get(o) : told.verbs.get(o).size();
    }

    int verb(int o, int verb) {
        return told.verbs.getOrDefault(o, Map.of()).getOrDefault(verb, 0);
    }

    int box(int r, int b, int what) {
        if (!hasBox(r, b) || what < 0 || what > 4) {
            return -1;
        }
        return what < 4 ? told.rooms.get(r).get(b)[what] : isOpen(r, b) ? 0 : 1;
    }

    int note(int i) {
        there(i >= 0 && i < 64 && i < now.notes.size());
        return now.notes.get(i);
    }

    int sentence(int i, int what) {
        there(i >= 0 && i < now.sentences.size() && what >= 0 && what <= 2);
        return now.sentences.get(i)[what];
    }

    int count(int what) {
        int running = (int) Arrays.stream(now.slots).filter(s -> s[0] > 0).count();
        int[] counts = {now.tick, running, now.sentences.size(), now.notes.size(), now.crashes, now.spilled,
            now.luck, told.rooms.size(), told.scripts.size(), told.objects.size(), told.actors.size(),
            tape.size()};
        return what < 0 || what > 11 ? -1 : counts[what];
    }

    boolean keep() {
        kept = now.copy();
        return true;
    }

    boolean back() {
        if (kept != null) {
            now = kept.copy();
        }
        return kept != null;
    }
}
