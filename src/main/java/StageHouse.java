import java.util.Arrays;
import java.util.NoSuchElementException;

/**
 * A house for plays that are told as rows of bytes. The numbers of rooms, scripts, objects, actors
 * and orders are those of the document; so are the words in capitals.
 */
public final class StageHouse {
    public static final int NONE = -1;

    private static final int TAPE_LIMIT = 6000;
    private static final int TAPE_WORDS = 1500;
    private static final int MOST_TICKS = 200;
    private static final int TURN_ORDERS = 300;

    private static final int ROOMS = 20;
    private static final int SCRIPTS = 60;
    private static final int OBJECTS = 60;
    private static final int ACTORS = 12;
    private static final int BOXES = 16;
    private static final int VARIABLES = 64;
    private static final int LOCALS = 4;
    private static final int SLOTS = 8;
    private static final int NOTES = 64;
    private static final int SENTENCES = 6;
    private static final int SENTENCE_NUMBERS = 3;
    private static final int MOST_SPEED = 8;
    private static final int ANY_VERB = 255;
    private static final int FAR_AWAY = 999;
    private static final int BEYOND_ALL_SQUARES = 2 * 256 * 256;
    private static final int ALL_BUT_SIGN = 0x7fffffff;

    private static final int[] MARK = {80, 76, 65, 89};
    private static final int TAG_ROOM = 82;
    private static final int TAG_SCRIPT = 83;
    private static final int TAG_OBJECT = 79;
    private static final int TAG_ACTOR = 65;
    private static final int BLOCK_HEAD = 3;
    private static final int ROOM_HEAD = 2;
    private static final int BOX_BYTES = 5;
    private static final int OBJECT_HEAD = 5;

    private static final int FAULT_MARK = 1;
    private static final int FAULT_TAG = 2;
    private static final int FAULT_LENGTH = 3;
    private static final int FAULT_BYTE = 4;

    private static final int ORDER_END = 0;
    private static final int ORDER_BREAK = 1;
    private static final int ORDER_GO = 2;
    private static final int ORDER_SET = 3;
    private static final int ORDER_ADD = 4;
    private static final int ORDER_SUBTRACT = 5;
    private static final int ORDER_MULTIPLY = 6;
    private static final int ORDER_DIVIDE = 7;
    private static final int ORDER_GO_IF_SAME = 8;
    private static final int ORDER_GO_IF_BELOW = 9;
    private static final int ORDER_DELAY = 10;
    private static final int ORDER_START = 11;
    private static final int ORDER_STOP = 12;
    private static final int ORDER_PUT_ACTOR = 13;
    private static final int ORDER_WALK_ACTOR = 14;
    private static final int ORDER_AWAIT_ACTOR = 15;
    private static final int ORDER_SPEED = 16;
    private static final int ORDER_STATE = 17;
    private static final int ORDER_OWNER = 18;
    private static final int ORDER_SHUT_BOX = 19;
    private static final int ORDER_NOTE = 20;
    private static final int ORDER_SENTENCE = 21;
    private static final int ORDER_FREEZE = 22;
    private static final int ORDER_ASK_X = 23;
    private static final int ORDER_ASK_Y = 24;
    private static final int ORDER_ASK_ROOM = 25;
    private static final int ORDER_ASK_BOX = 26;
    private static final int ORDER_ASK_WALKS = 27;
    private static final int ORDER_ASK_STATE = 28;
    private static final int ORDER_ASK_OWNER = 29;
    private static final int ORDER_ASK_SLOTS = 30;
    private static final int ORDER_ASK_DISTANCE = 31;
    private static final int ORDER_LUCK = 32;
    private static final int ORDER_CHAIN = 33;
    private static final int ORDER_KINDS = 34;

    // What stands behind each ORDER 0 .. 33: a TARGET comes first, then VALUES, a JUMP last.
    private static final int[] ORDER_TARGETS = {
        0, 0, 0, 1, 1, 1, 1, 1, 0, 0, 0, 0, 0, 0, 0, 0, 0,
        0, 0, 0, 0, 0, 0, 1, 1, 1, 1, 1, 1, 1, 1, 1, 1, 0};
    private static final int[] ORDER_VALUES = {
        0, 0, 0, 1, 1, 1, 1, 1, 2, 2, 1, 1, 1, 4, 3, 1, 2,
        2, 2, 3, 1, 3, 1, 1, 1, 1, 1, 1, 1, 1, 1, 2, 1, 1};
    private static final int[] ORDER_JUMPS = {
        0, 0, 1, 0, 0, 0, 0, 0, 1, 1, 0, 0, 0, 0, 0, 0, 0,
        0, 0, 0, 0, 0, 0, 0, 0, 0, 0, 0, 0, 0, 0, 0, 0, 0};
    private static final int MOST_VALUES = 4;

    private static final int GOES_ON = 0;
    private static final int TURN_OVER = 1;
    private static final int CRASHES = 2;

    /** Its bytes are THE TAPE; what is read of them stays here until it is known to have no FAULT. */
    private final Play draft;
    private final Play given;
    private final PlayReader reader;
    private final Stage stage;
    private final Stage kept;
    private final Ground ground;
    private final Walker walker;
    private final Runner runner;
    private boolean hasKept;

    public StageHouse() {
        draft = new Play();
        given = new Play();
        reader = new PlayReader(draft);
        stage = new Stage();
        kept = new Stage();
        ground = new Ground();
        walker = new Walker(given, ground, stage);
        runner = new Runner(given, ground, stage, walker);
    }

    public int feed(int a, int b, int c, int d, int e) {
        Tape tape = draft.bytes;
        if (tape.size + 20 > TAPE_LIMIT) {
            return NONE;
        }
        tape.addNumber(a);
        tape.addNumber(b);
        tape.addNumber(c);
        tape.addNumber(d);
        tape.addNumber(e);
        return tape.size;
    }

    public boolean end(int n) {
        return draft.bytes.cut(n);
    }

    public int play() throws IllegalArgumentException {
        int blocks = reader.read();
        if (blocks == NONE) {
            draft.bytes.cut(0);
            throw new IllegalArgumentException("the tape has a fault");
        }
        given.copyFrom(draft);
        draft.bytes.cut(0);
        ground.lay(given);
        stage.open(given);
        hasKept = false;
        return blocks;
    }

    public int fault(int what) {
        if (what == 0) {
            return reader.fault;
        }
        return what == 1 ? reader.faultPlace : NONE;
    }

    public int tick(int n) {
        if (n < 0 || n > MOST_TICKS) {
            return NONE;
        }
        int done = 0;
        for (int i = 0; i < n; i++) {
            done += runner.beat();
        }
        return done;
    }

    public int start(int s) {
        return runner.startScript(s, false);
    }

    public int say(int verb, int object, int other) {
        return stage.addSentence(verb, object, other) ? stage.waiting : NONE;
    }

    public boolean walk(int a, int x, int y) {
        return walker.send(a, x, y);
    }

    public int set(int i, int v) throws NoSuchElementException {
        if (i < 0 || i >= VARIABLES) {
            throw new NoSuchElementException("no such variable");
        }
        int was = stage.variables[i];
        stage.variables[i] = v;
        return was;
    }

    public int variable(int i) throws NoSuchElementException {
        if (i < 0 || i >= VARIABLES) {
            throw new NoSuchElementException("no such variable");
        }
        return stage.variables[i];
    }

    public int slot(int i, int what) {
        if (i < 0 || i >= SLOTS) {
            return NONE;
        }
        return stage.slots[i].number(what);
    }

    public int actor(int a, int what) throws NoSuchElementException {
        if (!given.actors.has(a) || what < 0 || what > 7) {
            throw new NoSuchElementException("no such actor, or nothing such of it");
        }
        Actor one = stage.actors[a];
        return what == 7 ? walker.boxOf(one) : one.number(what);
    }

    public int object(int o, int what) throws NoSuchElementException {
        if (!given.objects.has(o) || what < 0 || what > 5) {
            throw new NoSuchElementException("no such object, or nothing such of it");
        }
        switch (what) {
            case 3:
                return stage.states[o];
            case 4:
                return stage.owners[o];
            case 5:
                return given.verbsOf(o);
            default:
                return given.whereIs(o, what);
        }
    }

    public int verb(int o, int verb) {
        return given.scriptFor(o, verb);
    }

    public int box(int r, int b, int what) {
        if (!ground.hasBox(r, b)) {
            return NONE;
        }
        if (what == 4) {
            return walker.isOpen(r, b) ? 0 : 1;
        }
        return ground.corner(r, b, what);
    }

    public int neighbours(int r, int b, int c) {
        if (!ground.hasBox(r, b) || !ground.hasBox(r, c)) {
            return NONE;
        }
        return ground.near[r * BOXES + b] >> c & 1;
    }

    public int way(int r, int b, int c) {
        if (!walker.isOpen(r, b) || !walker.isOpen(r, c)) {
            return NONE;
        }
        return walker.boxesBetween(r, b, c);
    }

    public int goal(int a, int x, int y) {
        if (!given.actors.has(a) || !isByte(x) || !isByte(y)) {
            return NONE;
        }
        return walker.goalFor(stage.actors[a], x, y);
    }

    public int note(int i) throws NoSuchElementException {
        if (i < 0 || i >= NOTES || i >= stage.noted) {
            throw new NoSuchElementException("not so many notes");
        }
        return stage.notes[(stage.noted - 1 - i) % NOTES];
    }

    public int sentence(int i, int what) throws NoSuchElementException {
        if (i < 0 || i >= stage.waiting || what < 0 || what >= SENTENCE_NUMBERS) {
            throw new NoSuchElementException("no such sentence, or nothing such of it");
        }
        return stage.sentences[i * SENTENCE_NUMBERS + what];
    }

    public int count(int what) {
        switch (what) {
            case 0:
                return stage.ticks;
            case 1:
                return stage.runningSlots();
            case 2:
                return stage.waiting;
            case 3:
                return stage.noted;
            case 4:
                return stage.crashes;
            case 5:
                return stage.spilled;
            case 6:
                return stage.luck;
            case 7:
                return given.rooms.size;
            case 8:
                return given.scripts.size;
            case 9:
                return given.objects.size;
            case 10:
                return given.actors.size;
            case 11:
                return draft.bytes.size;
            default:
                return NONE;
        }
    }

    public boolean keep() {
        kept.copyFrom(stage);
        hasKept = true;
        return true;
    }

    public boolean back() {
        if (hasKept) {
            stage.copyFrom(kept);
        }
        return hasKept;
    }

    private static boolean isByte(int n) {
        return n >= 0 && n <= 255;
    }

    /** Bytes, four in an int: a row of single bytes would take four times the elements. */
    private static final class Tape {
        final int[] words = new int[TAPE_WORDS];
        int size;

        /** NONE where there is no byte. */
        int at(int place) {
            if (place < 0 || place >= size) {
                return NONE;
            }
            return (words[place >> 2] >>> (24 - 8 * (place & 3))) & 255;
        }

        void addNumber(int number) {
            for (int shift = 24; shift >= 0; shift -= 8) {
                add(number >>> shift & 255);
            }
        }

        boolean cut(int n) {
            if (n < 0 || n > size) {
                return false;
            }
            size = n;
            return true;
        }

        void copyFrom(Tape other) {
            System.arraycopy(other.words, 0, words, 0, TAPE_WORDS);
            size = other.size;
        }

        private void add(int bits) {
            if (size >= TAPE_LIMIT) {
                return;
            }
            int shift = 24 - 8 * (size & 3);
            int rest = words[size >> 2] & ~(255 << shift);
            words[size >> 2] = rest | bits << shift;
            size++;
        }
    }

    /** Where the BLOCKS of one kind are on a tape, by their numbers 1 .. most. */
    private static final class Index {
        // A place 0 stands for none: a PLAY's first four bytes are never in a BLOCK.
        final int[] places;
        final int[] ends;
        int size;

        Index(int most) {
            places = new int[most + 1];
            ends = new int[most + 1];
        }

        boolean isNumber(int n) {
            return n > 0 && n < places.length;
        }

        boolean has(int n) {
            return n > 0 && n < places.length && places[n] != 0;
        }

        void put(int n, int place, int end) {
            if (isNumber(n)) {
                places[n] = place;
                ends[n] = end;
                size++;
            }
        }

        void clear() {
            Arrays.fill(places, 0);
            Arrays.fill(ends, 0);
            size = 0;
        }

        void copyFrom(Index other) {
            int length = Math.min(places.length, other.places.length);
            System.arraycopy(other.places, 0, places, 0, length);
            System.arraycopy(other.ends, 0, ends, 0, length);
            size = other.size;
        }
    }

    /** A PLAY as it was told: its bytes, and where in them each number's BLOCK is. */
    private static final class Play {
        final Tape bytes = new Tape();
        final Index rooms = new Index(ROOMS);
        final Index scripts = new Index(SCRIPTS);
        final Index objects = new Index(OBJECTS);
        final Index actors = new Index(ACTORS);

        void clear() {
            rooms.clear();
            scripts.clear();
            objects.clear();
            actors.clear();
        }

        void copyFrom(Play other) {
            bytes.copyFrom(other.bytes);
            rooms.copyFrom(other.rooms);
            scripts.copyFrom(other.scripts);
            objects.copyFrom(other.objects);
            actors.copyFrom(other.actors);
        }

        int boxesOf(int room) {
            return rooms.has(room) ? bytes.at(rooms.places[room] + 1) : 0;
        }

        int boxByte(int room, int box, int what) {
            if (!rooms.has(room)) {
                return NONE;
            }
            return bytes.at(rooms.places[room] + ROOM_HEAD + BOX_BYTES * box + what);
        }

        int actorByte(int actor, int what) {
            return actors.has(actor) ? bytes.at(actors.places[actor] + 1 + what) : 0;
        }

        /** Of an OBJECT what 0: ROOM, 1: x, 2: y, 3: its first STATE. */
        int whereIs(int object, int what) {
            return objects.has(object) ? bytes.at(objects.places[object] + 1 + what) : 0;
        }

        int verbsOf(int object) {
            if (!objects.has(object)) {
                return 0;
            }
            return (objects.ends[object] - objects.places[object] - OBJECT_HEAD) / 2;
        }

        int scriptFor(int object, int verb) {
            if (!objects.has(object)) {
                return 0;
            }
            int end = objects.ends[object];
            for (int at = objects.places[object] + OBJECT_HEAD; at < end; at += 2) {
                if (bytes.at(at) == verb) {
                    return bytes.at(at + 1);
                }
            }
            return 0;
        }
    }

    /** Reads THE TAPE as a PLAY, up to its first FAULT; what comes behind a FAULT is not looked at. */
    private static final class PlayReader {
        int fault;
        int faultPlace;
        private final Play play;
        private final int[] verbsSeen = new int[ANY_VERB + 1];
        private int place;
        private int blockEnd;

        PlayReader(Play play) {
            this.play = play;
        }

        /** How many BLOCKS; NONE if there is a FAULT. */
        int read() {
            fault = 0;
            faultPlace = 0;
            play.clear();
            readMark();
            int blocks = 0;
            while (blocks < TAPE_LIMIT && fault == 0 && place < play.bytes.size) {
                readBlock();
                blocks++;
            }
            return fault == 0 ? blocks : NONE;
        }

        private void readMark() {
            place = 0;
            for (int i = 0; i < MARK.length && fault == 0; i++) {
                if (play.bytes.at(i) == MARK[i]) {
                    place++;
                } else {
                    fail(FAULT_MARK);
                }
            }
        }

        private void readBlock() {
            int tag = play.bytes.at(place);
            if (!readHead(tag)) {
                return;
            }
            switch (tag) {
                case TAG_ROOM:
                    readRoom();
                    break;
                case TAG_SCRIPT:
                    readScript();
                    break;
                case TAG_OBJECT:
                    readObject();
                    break;
                default:
                    readActor();
                    break;
            }
            if (place < blockEnd) {
                fail(FAULT_BYTE);
            }
        }

        private boolean readHead(int tag) {
            if (tag != TAG_ROOM && tag != TAG_SCRIPT && tag != TAG_OBJECT && tag != TAG_ACTOR) {
                fail(FAULT_TAG);
                return false;
            }
            int inside = place + BLOCK_HEAD;
            int length = play.bytes.at(place + 1) << 8 | play.bytes.at(place + 2);
            if (inside > play.bytes.size || inside + length > play.bytes.size) {
                fail(FAULT_LENGTH);
                return false;
            }
            place = inside;
            blockEnd = inside + length;
            return true;
        }

        private void readRoom() {
            takeNumber(play.rooms);
            int boxes = take(0, BOXES);
            for (int i = 0; i < boxes; i++) {
                int x0 = take(0, 255);
                int y0 = take(0, 255);
                take(x0, 255);
                take(y0, 255);
                take(0, 1);
            }
        }

        private void readScript() {
            takeNumber(play.scripts);
            take(0, 255);
            if (fault == 0) {
                place = blockEnd;
            }
        }

        private void readObject() {
            takeNumber(play.objects);
            take(0, ROOMS);
            take(0, 255);
            take(0, 255);
            take(0, 255);
            Arrays.fill(verbsSeen, 0);
            for (int i = 0; i < TAPE_LIMIT && fault == 0 && place < blockEnd; i++) {
                takeVerb();
                take(1, SCRIPTS);
            }
        }

        private void readActor() {
            takeNumber(play.actors);
            take(0, ROOMS);
            take(0, 255);
            take(0, 255);
            take(0, MOST_SPEED);
        }

        private void takeNumber(Index kind) {
            int number = peek();
            if (!kind.isNumber(number) || kind.has(number)) {
                fail(FAULT_BYTE);
                return;
            }
            kind.put(number, place, blockEnd);
            place++;
        }

        private void takeVerb() {
            int verb = peek();
            if (verb < 1 || verb >= verbsSeen.length || verbsSeen[verb] != 0) {
                fail(FAULT_BYTE);
                return;
            }
            verbsSeen[verb] = 1;
            place++;
        }

        /** The next byte of the BLOCK; NONE, and a FAULT, if it is not least .. most, or not there. */
        private int take(int least, int most) {
            if (fault != 0) {
                return NONE;
            }
            int taken = peek();
            if (taken == NONE || taken < least || taken > most) {
                fail(FAULT_BYTE);
                return NONE;
            }
            place++;
            return taken;
        }

        private int peek() {
            return place < blockEnd ? play.bytes.at(place) : NONE;
        }

        /** Only the first FAULT counts: what is read behind it may have come out of step. */
        private void fail(int kind) {
            if (fault == 0) {
                fault = kind;
                faultPlace = place;
            }
        }
    }

    private static final class Slot {
        int script;
        int place;
        int delay;
        int awaited;
        boolean frozen;
        boolean bySentence;
        final int[] locals = new int[LOCALS];

        boolean runs() {
            return script != 0;
        }

        /** Only of a free one, so that all else is 0. */
        void begin(int newScript, boolean saidSo) {
            script = newScript;
            bySentence = saidSo;
        }

        void release() {
            script = 0;
            place = 0;
            delay = 0;
            awaited = 0;
            frozen = false;
            bySentence = false;
            Arrays.fill(locals, 0);
        }

        void copyFrom(Slot other) {
            script = other.script;
            place = other.place;
            delay = other.delay;
            awaited = other.awaited;
            frozen = other.frozen;
            bySentence = other.bySentence;
            System.arraycopy(other.locals, 0, locals, 0, LOCALS);
        }

        int number(int what) {
            switch (what) {
                case 0:
                    return script;
                case 1:
                    return place;
                case 2:
                    return delay;
                case 3:
                    return awaited;
                case 4:
                    return frozen ? 1 : 0;
                case 5:
                    return bySentence ? 1 : 0;
                default:
                    return what >= 6 && what < 6 + LOCALS ? locals[what - 6] : NONE;
            }
        }
    }

    private static final class Actor {
        int room;
        int x;
        int y;
        int speed;
        boolean walks;
        int toX;
        int toY;

        void putAt(int newRoom, int newX, int newY) {
            room = newRoom;
            x = newX;
            y = newY;
            halt();
        }

        void walkTo(int newX, int newY) {
            walks = true;
            toX = newX;
            toY = newY;
        }

        void halt() {
            walks = false;
            toX = NONE;
            toY = NONE;
        }

        void copyFrom(Actor other) {
            room = other.room;
            x = other.x;
            y = other.y;
            speed = other.speed;
            walks = other.walks;
            toX = other.toX;
            toY = other.toY;
        }

        int number(int what) {
            switch (what) {
                case 0:
                    return room;
                case 1:
                    return x;
                case 2:
                    return y;
                case 3:
                    return speed;
                case 4:
                    return walks ? 1 : 0;
                case 5:
                    return toX;
                case 6:
                    return toY;
                default:
                    return NONE;
            }
        }
    }

    /** All that runs, and so all that is kept and comes back. */
    private static final class Stage {
        int ticks;
        int luck = 1;
        int noted;
        int crashes;
        int spilled;
        int waiting;
        final int[] variables = new int[VARIABLES];
        final int[] notes = new int[NOTES];
        final int[] sentences = new int[SENTENCES * SENTENCE_NUMBERS];
        final int[] states = new int[OBJECTS + 1];
        final int[] owners = new int[OBJECTS + 1];
        final int[] shut = new int[ROOMS + 1];
        final Slot[] slots = new Slot[SLOTS];
        final Actor[] actors = new Actor[ACTORS + 1];

        Stage() {
            for (int i = 0; i < SLOTS; i++) {
                slots[i] = new Slot();
            }
            for (int i = 0; i <= ACTORS; i++) {
                actors[i] = new Actor();
            }
        }

        /** As a PLAY is at first. */
        void open(Play play) {
            ticks = 0;
            luck = 1;
            noted = 0;
            crashes = 0;
            spilled = 0;
            waiting = 0;
            Arrays.fill(variables, 0);
            Arrays.fill(owners, 0);
            for (int i = 0; i < SLOTS; i++) {
                slots[i].release();
            }
            for (int i = 0; i <= OBJECTS; i++) {
                states[i] = play.whereIs(i, 3);
            }
            for (int i = 0; i <= ACTORS; i++) {
                actors[i].putAt(play.actorByte(i, 0), play.actorByte(i, 1), play.actorByte(i, 2));
                actors[i].speed = play.actorByte(i, 3);
            }
            for (int i = 0; i <= ROOMS; i++) {
                shutBoxes(play, i);
            }
        }

        private void shutBoxes(Play play, int room) {
            shut[room] = 0;
            int boxes = play.boxesOf(room);
            for (int i = 0; i < boxes; i++) {
                shutBox(room, i, play.boxByte(room, i, 4) == 1);
            }
        }

        void shutBox(int room, int box, boolean isShut) {
            int bit = 1 << box;
            shut[room] = isShut ? shut[room] | bit : shut[room] & ~bit;
        }

        void copyFrom(Stage other) {
            ticks = other.ticks;
            luck = other.luck;
            noted = other.noted;
            crashes = other.crashes;
            spilled = other.spilled;
            waiting = other.waiting;
            System.arraycopy(other.variables, 0, variables, 0, VARIABLES);
            System.arraycopy(other.notes, 0, notes, 0, NOTES);
            System.arraycopy(other.sentences, 0, sentences, 0, SENTENCES * SENTENCE_NUMBERS);
            System.arraycopy(other.states, 0, states, 0, OBJECTS + 1);
            System.arraycopy(other.owners, 0, owners, 0, OBJECTS + 1);
            System.arraycopy(other.shut, 0, shut, 0, ROOMS + 1);
            for (int i = 0; i < SLOTS; i++) {
                slots[i].copyFrom(other.slots[i]);
            }
            for (int i = 0; i <= ACTORS; i++) {
                actors[i].copyFrom(other.actors[i]);
            }
        }

        int runningSlots() {
            int running = 0;
            for (int i = 0; i < SLOTS; i++) {
                if (slots[i].runs()) {
                    running++;
                }
            }
            return running;
        }

        int slotsWith(int script) {
            int running = 0;
            for (int i = 0; i < SLOTS; i++) {
                if (slots[i].runs() && slots[i].script == script) {
                    running++;
                }
            }
            return running;
        }

        int lowestFreeSlot() {
            for (int i = 0; i < SLOTS; i++) {
                if (!slots[i].runs()) {
                    return i;
                }
            }
            return NONE;
        }

        boolean runsSentence() {
            for (int i = 0; i < SLOTS; i++) {
                if (slots[i].bySentence) {
                    return true;
                }
            }
            return false;
        }

        /** The count wraps if there are NOTES enough; the row's index must not. */
        void addNote(int number) {
            notes[Math.floorMod(noted, NOTES)] = number;
            noted++;
        }

        boolean addSentence(int verb, int object, int other) {
            if (waiting >= SENTENCES) {
                spilled++;
                return false;
            }
            int at = waiting * SENTENCE_NUMBERS;
            sentences[at] = verb;
            sentences[at + 1] = object;
            sentences[at + 2] = other;
            waiting++;
            return true;
        }

        /** The first SENTENCE goes from the ROW into VARIABLES 1, 2, 3. */
        void takeSentence() {
            if (waiting <= 0) {
                return;
            }
            System.arraycopy(sentences, 0, variables, 1, SENTENCE_NUMBERS);
            waiting--;
            System.arraycopy(sentences, SENTENCE_NUMBERS, sentences, 0, waiting * SENTENCE_NUMBERS);
        }

        int drawLuck(int below) {
            luck = luck * 1103515245 + 12345;
            return below > 0 ? (luck & ALL_BUT_SIGN) % below : 0;
        }
    }

    /** The BOXES of all ROOMS of a PLAY, and which are NEIGHBOURS; made once, for each STEP asks. */
    private static final class Ground {
        private final int[] counts = new int[ROOMS + 1];
        final int[] x0 = new int[(ROOMS + 1) * BOXES];
        final int[] y0 = new int[(ROOMS + 1) * BOXES];
        final int[] x1 = new int[(ROOMS + 1) * BOXES];
        final int[] y1 = new int[(ROOMS + 1) * BOXES];
        /** Of each BOX: bit c tells that BOX c of its ROOM is a NEIGHBOUR. */
        final int[] near = new int[(ROOMS + 1) * BOXES];

        void lay(Play play) {
            for (int room = 0; room <= ROOMS; room++) {
                counts[room] = Math.max(0, Math.min(BOXES, play.boxesOf(room)));
                for (int i = 0; i < counts[room]; i++) {
                    int at = room * BOXES + i;
                    x0[at] = play.boxByte(room, i, 0);
                    y0[at] = play.boxByte(room, i, 1);
                    x1[at] = play.boxByte(room, i, 2);
                    y1[at] = play.boxByte(room, i, 3);
                }
                findNeighbours(room);
            }
        }

        private void findNeighbours(int room) {
            int first = room * BOXES;
            for (int b = 0; b < counts[room]; b++) {
                near[first + b] = 0;
                for (int c = 0; c < counts[room]; c++) {
                    if (touch(first + b, first + c)) {
                        near[first + b] |= 1 << c;
                    }
                }
            }
        }

        /** From a point of one to a point of the other it is one step by x or by y, or none. */
        private boolean touch(int b, int c) {
            int gapX = Math.max(0, Math.max(x0[b], x0[c]) - Math.min(x1[b], x1[c]));
            int gapY = Math.max(0, Math.max(y0[b], y0[c]) - Math.min(y1[b], y1[c]));
            return gapX + gapY <= 1;
        }

        int boxesIn(int room) {
            return room > 0 && room <= ROOMS ? counts[room] : 0;
        }

        boolean hasBox(int room, int box) {
            return room > 0 && room <= ROOMS && box >= 0 && box < counts[room];
        }

        int corner(int room, int box, int what) {
            int at = room * BOXES + box;
            switch (what) {
                case 0:
                    return x0[at];
                case 1:
                    return y0[at];
                case 2:
                    return x1[at];
                case 3:
                    return y1[at];
                default:
                    return NONE;
            }
        }

        boolean hasPoint(int room, int box, int x, int y) {
            int at = room * BOXES + box;
            return x >= x0[at] && x <= x1[at] && y >= y0[at] && y <= y1[at];
        }

        int nearestX(int room, int box, int x) {
            int at = room * BOXES + box;
            return Math.max(x0[at], Math.min(x1[at], x));
        }

        int nearestY(int room, int box, int y) {
            int at = room * BOXES + box;
            return Math.max(y0[at], Math.min(y1[at], y));
        }
    }

    /** Takes ACTORS over the GROUND. */
    private static final class Walker {
        private final Play play;
        private final Ground ground;
        private final Stage stage;
        /** Of each BOX: how many BOXES a way has from the one last measured from; 0 without a way. */
        private final int[] far = new int[BOXES];
        private int goalX;
        private int goalY;
        private int goalBox;

        Walker(Play play, Ground ground, Stage stage) {
            this.play = play;
            this.ground = ground;
            this.stage = stage;
        }

        boolean send(int a, int x, int y) {
            if (!play.actors.has(a) || !isByte(x) || !isByte(y)) {
                return false;
            }
            stage.actors[a].walkTo(x, y);
            return true;
        }

        boolean isOpen(int room, int box) {
            return ground.hasBox(room, box) && (stage.shut[room] >> box & 1) == 0;
        }

        int boxOf(Actor actor) {
            int boxes = ground.boxesIn(actor.room);
            for (int i = 0; i < boxes; i++) {
                boolean isShut = (stage.shut[actor.room] >> i & 1) != 0;
                if (!isShut && ground.hasPoint(actor.room, i, actor.x, actor.y)) {
                    return i;
                }
            }
            return NONE;
        }

        int boxesBetween(int room, int from, int to) {
            measureFrom(room, from);
            return far[to];
        }

        int goalFor(Actor actor, int x, int y) {
            int own = boxOf(actor);
            if (own == NONE) {
                return NONE;
            }
            findGoal(actor.room, own, x, y);
            return 256 * goalX + goalY;
        }

        void moveAll() {
            for (int a = 1; a <= ACTORS; a++) {
                Actor actor = stage.actors[a];
                for (int i = 0; i < actor.speed && actor.walks; i++) {
                    step(actor);
                }
            }
        }

        private void measureFrom(int room, int from) {
            Arrays.fill(far, 0);
            int found = 1 << from;
            int edge = found;
            for (int boxes = 1; boxes <= BOXES && edge != 0; boxes++) {
                int next = 0;
                for (int i = 0; i < BOXES; i++) {
                    if ((edge >> i & 1) != 0) {
                        far[i] = boxes;
                        next |= ground.near[room * BOXES + i];
                    }
                }
                edge = next & ~found & ~stage.shut[room];
                found |= edge;
            }
        }

        private void findGoal(int room, int own, int x, int y) {
            measureFrom(room, own);
            int least = BEYOND_ALL_SQUARES;
            for (int i = 0; i < BOXES; i++) {
                if (far[i] == 0) {
                    continue;
                }
                int nearX = ground.nearestX(room, i, x);
                int nearY = ground.nearestY(room, i, y);
                int distance = (x - nearX) * (x - nearX) + (y - nearY) * (y - nearY);
                if (distance < least) {
                    least = distance;
                    goalX = nearX;
                    goalY = nearY;
                    goalBox = i;
                }
            }
        }

        private void step(Actor actor) {
            int own = boxOf(actor);
            if (own == NONE) {
                actor.halt();
                return;
            }
            int room = actor.room;
            findGoal(room, own, actor.toX, actor.toY);
            if (actor.x == goalX && actor.y == goalY) {
                actor.halt();
            } else if (ground.hasPoint(room, own, goalX, goalY)) {
                stepTo(actor, own, own, goalX, goalY);
            } else {
                int next = nextBox(room, own);
                int x = ground.nearestX(room, next, actor.x);
                int y = ground.nearestY(room, next, actor.y);
                stepTo(actor, own, next, x, y);
            }
        }

        /** Measured from the GOAL's BOX, each BOX that is one nearer to it than its own is next. */
        private int nextBox(int room, int own) {
            measureFrom(room, goalBox);
            int nearOwn = ground.near[room * BOXES + own];
            for (int i = 0; i < BOXES; i++) {
                if ((nearOwn >> i & 1) != 0 && far[i] != 0 && far[i] == far[own] - 1) {
                    return i;
                }
            }
            return own;
        }

        private void stepTo(Actor actor, int own, int next, int x, int y) {
            int newX = actor.x + Integer.compare(x, actor.x);
            boolean onGround = ground.hasPoint(actor.room, own, newX, actor.y)
                || ground.hasPoint(actor.room, next, newX, actor.y);
            if (newX != actor.x && onGround) {
                actor.x = newX;
            } else {
                actor.y += Integer.compare(y, actor.y);
            }
        }
    }

    /** Runs SCRIPTS in SLOTS, TICK by TICK. */
    private static final class Runner {
        private final Play play;
        private final Ground ground;
        private final Stage stage;
        private final Walker walker;
        // The ORDER at hand, as it was read; made once, for an ORDER must cost no new object.
        private final int[] values = new int[MOST_VALUES];
        private int target;
        private int jump;
        private boolean misread;
        private int codePlace;
        private int codeLength;

        Runner(Play play, Ground ground, Stage stage, Walker walker) {
            this.play = play;
            this.ground = ground;
            this.stage = stage;
            this.walker = walker;
        }

        /** One TICK: how many ORDERS were done. */
        int beat() {
            stage.ticks++;
            stage.variables[0] = stage.ticks;
            if (stage.waiting > 0 && !stage.runsSentence()) {
                actOnSentence();
            }
            int done = 0;
            for (int i = 0; i < SLOTS; i++) {
                done += turn(stage.slots[i]);
            }
            walker.moveAll();
            return done;
        }

        /** The SLOT; NONE if there is no such SCRIPT, or none is free. */
        int startScript(int script, boolean bySentence) {
            if (!play.scripts.has(script)) {
                return NONE;
            }
            int free = stage.lowestFreeSlot();
            if (free == NONE) {
                stage.spilled++;
                return NONE;
            }
            stage.slots[free].begin(script, bySentence);
            return free;
        }

        private void actOnSentence() {
            stage.takeSentence();
            int verb = stage.variables[1];
            int object = stage.variables[2];
            int script = play.scriptFor(object, verb);
            if (script == 0) {
                script = play.scriptFor(object, ANY_VERB);
            }
            startScript(script, true);
        }

        private int turn(Slot slot) {
            if (!comesToOrders(slot)) {
                return 0;
            }
            openCode(slot.script);
            for (int done = 0; done < TURN_ORDERS; done++) {
                int order = readOrder(slot);
                int outcome = order == NONE ? CRASHES : perform(slot, order);
                if (outcome == CRASHES) {
                    slot.release();
                    stage.crashes++;
                    return done;
                }
                if (outcome == TURN_OVER) {
                    return done + 1;
                }
            }
            return TURN_ORDERS;
        }

        private boolean comesToOrders(Slot slot) {
            if (!slot.runs() || slot.frozen) {
                return false;
            }
            if (slot.delay > 0) {
                slot.delay--;
                if (slot.delay > 0) {
                    return false;
                }
            }
            if (play.actors.has(slot.awaited) && stage.actors[slot.awaited].walks) {
                return false;
            }
            slot.awaited = 0;
            return true;
        }

        private void openCode(int script) {
            codePlace = 0;
            codeLength = 0;
            if (play.scripts.has(script)) {
                codePlace = play.scripts.places[script] + 1;
                codeLength = play.scripts.ends[script] - codePlace;
            }
        }

        /** The ORDER, with all that stands behind it; NONE if it can't be read. */
        private int readOrder(Slot slot) {
            misread = false;
            int order = nextByte(slot);
            if (order < 0 || order >= ORDER_KINDS) {
                return NONE;
            }
            if (ORDER_TARGETS[order] != 0) {
                target = readTarget(slot);
            }
            for (int i = 0; i < ORDER_VALUES[order]; i++) {
                values[i] = readValue(slot);
            }
            if (ORDER_JUMPS[order] != 0) {
                jump = readJump(slot);
            }
            return misread ? NONE : order;
        }

        private int nextByte(Slot slot) {
            if (slot.place < 0 || slot.place >= codeLength) {
                misread = true;
                return NONE;
            }
            int code = play.bytes.at(codePlace + slot.place);
            slot.place++;
            return code;
        }

        private int readTarget(Slot slot) {
            int kind = nextByte(slot);
            return addressOf(kind, nextByte(slot));
        }

        private int readValue(Slot slot) {
            int kind = nextByte(slot);
            int first = nextByte(slot);
            if (kind == 0) {
                return (short) (first << 8 | nextByte(slot));
            }
            int address = addressOf(kind, first);
            return address == NONE ? 0 : fetch(slot, address);
        }

        private int readJump(Slot slot) {
            int high = nextByte(slot);
            int to = high << 8 | nextByte(slot);
            if (to < 0 || to >= codeLength) {
                misread = true;
            }
            return to;
        }

        /** VARIABLES are 0 .. 63, LOCALS come behind them. */
        private int addressOf(int kind, int number) {
            if (kind == 1 && number >= 0 && number < VARIABLES) {
                return number;
            }
            if (kind == 2 && number >= 0 && number < LOCALS) {
                return VARIABLES + number;
            }
            misread = true;
            return NONE;
        }

        private int fetch(Slot slot, int address) {
            return address < VARIABLES ? stage.variables[address] : slot.locals[address - VARIABLES];
        }

        private int store(Slot slot, int value) {
            if (target < VARIABLES) {
                stage.variables[target] = value;
            } else {
                slot.locals[target - VARIABLES] = value;
            }
            return GOES_ON;
        }

        private int perform(Slot slot, int order) {
            int v = values[0];
            switch (order) {
                case ORDER_END:
                    slot.release();
                    return TURN_OVER;
                case ORDER_BREAK:
                    return TURN_OVER;
                case ORDER_GO:
                    return goIf(slot, true);
                case ORDER_GO_IF_SAME:
                    return goIf(slot, v == values[1]);
                case ORDER_GO_IF_BELOW:
                    return goIf(slot, v < values[1]);
                case ORDER_DELAY:
                    slot.delay = Math.max(0, v);
                    return TURN_OVER;
                case ORDER_START:
                    startScript(v, false);
                    return GOES_ON;
                case ORDER_STOP:
                    return stopScript(slot, v);
                case ORDER_CHAIN:
                    return chain(slot, v);
                case ORDER_AWAIT_ACTOR:
                    return await(slot, v);
                case ORDER_NOTE:
                    stage.addNote(v);
                    return GOES_ON;
                case ORDER_SENTENCE:
                    stage.addSentence(v, values[1], values[2]);
                    return GOES_ON;
                case ORDER_FREEZE:
                    return freezeOthers(slot, v != 0);
                case ORDER_ASK_X:
                case ORDER_ASK_Y:
                case ORDER_ASK_ROOM:
                case ORDER_ASK_BOX:
                case ORDER_ASK_WALKS:
                    return askActor(slot, order);
                case ORDER_ASK_DISTANCE:
                    return askDistance(slot);
                default:
                    return ORDER_TARGETS[order] != 0 ? assign(slot, order) : changeStage(order);
            }
        }

        private int goIf(Slot slot, boolean goes) {
            if (goes) {
                slot.place = jump;
            }
            return GOES_ON;
        }

        private int stopScript(Slot slot, int script) {
            for (int i = 0; i < SLOTS; i++) {
                if (stage.slots[i].script == script) {
                    stage.slots[i].release();
                }
            }
            return slot.runs() ? GOES_ON : TURN_OVER;
        }

        private int chain(Slot slot, int script) {
            if (!play.scripts.has(script)) {
                slot.release();
                return TURN_OVER;
            }
            slot.script = script;
            slot.place = 0;
            openCode(script);
            return GOES_ON;
        }

        private int await(Slot slot, int actor) {
            if (!play.actors.has(actor)) {
                return CRASHES;
            }
            slot.awaited = actor;
            return TURN_OVER;
        }

        private int freezeOthers(Slot slot, boolean freezes) {
            for (int i = 0; i < SLOTS; i++) {
                Slot other = stage.slots[i];
                other.frozen = freezes && other.runs() && other != slot;
            }
            return GOES_ON;
        }

        private int changeStage(int order) {
            int v = values[0];
            switch (order) {
                case ORDER_PUT_ACTOR:
                    return putActor(v, values[1], values[2], values[3]);
                case ORDER_WALK_ACTOR:
                    return walker.send(v, values[1], values[2]) ? GOES_ON : CRASHES;
                case ORDER_SPEED:
                    return setSpeed(v, values[1]);
                case ORDER_STATE:
                    return setState(v, values[1]);
                case ORDER_OWNER:
                    return setOwner(v, values[1]);
                case ORDER_SHUT_BOX:
                    return shutBox(v, values[1], values[2] != 0);
                default:
                    return CRASHES;
            }
        }

        private int putActor(int actor, int room, int x, int y) {
            if (!play.actors.has(actor) || room < 0 || room > ROOMS || !isByte(x) || !isByte(y)) {
                return CRASHES;
            }
            stage.actors[actor].putAt(room, x, y);
            return GOES_ON;
        }

        private int setSpeed(int actor, int speed) {
            if (!play.actors.has(actor) || speed < 0 || speed > MOST_SPEED) {
                return CRASHES;
            }
            stage.actors[actor].speed = speed;
            return GOES_ON;
        }

        private int setState(int object, int state) {
            if (!play.objects.has(object) || !isByte(state)) {
                return CRASHES;
            }
            stage.states[object] = state;
            return GOES_ON;
        }

        private int setOwner(int object, int owner) {
            if (!play.objects.has(object) || owner != 0 && !play.actors.has(owner)) {
                return CRASHES;
            }
            stage.owners[object] = owner;
            return GOES_ON;
        }

        private int shutBox(int room, int box, boolean isShut) {
            if (!ground.hasBox(room, box)) {
                return CRASHES;
            }
            stage.shutBox(room, box, isShut);
            return GOES_ON;
        }

        private int assign(Slot slot, int order) {
            int v = values[0];
            switch (order) {
                case ORDER_SET:
                    return store(slot, v);
                case ORDER_ADD:
                    return store(slot, fetch(slot, target) + v);
                case ORDER_SUBTRACT:
                    return store(slot, fetch(slot, target) - v);
                case ORDER_MULTIPLY:
                    return store(slot, fetch(slot, target) * v);
                case ORDER_DIVIDE:
                    return v == 0 ? CRASHES : store(slot, fetch(slot, target) / v);
                case ORDER_ASK_STATE:
                    return play.objects.has(v) ? store(slot, stage.states[v]) : CRASHES;
                case ORDER_ASK_OWNER:
                    return play.objects.has(v) ? store(slot, stage.owners[v]) : CRASHES;
                case ORDER_ASK_SLOTS:
                    return store(slot, stage.slotsWith(v));
                case ORDER_LUCK:
                    return store(slot, stage.drawLuck(v));
                default:
                    return CRASHES;
            }
        }

        private int askActor(Slot slot, int order) {
            if (!play.actors.has(values[0])) {
                return CRASHES;
            }
            Actor actor = stage.actors[values[0]];
            switch (order) {
                case ORDER_ASK_X:
                    return store(slot, actor.x);
                case ORDER_ASK_Y:
                    return store(slot, actor.y);
                case ORDER_ASK_ROOM:
                    return store(slot, actor.room);
                case ORDER_ASK_BOX:
                    return store(slot, walker.boxOf(actor));
                case ORDER_ASK_WALKS:
                    return store(slot, actor.walks ? 1 : 0);
                default:
                    return CRASHES;
            }
        }

        private int askDistance(Slot slot) {
            int object = values[1];
            if (!play.actors.has(values[0]) || !play.objects.has(object)) {
                return CRASHES;
            }
            Actor actor = stage.actors[values[0]];
            if (play.whereIs(object, 0) != actor.room) {
                return store(slot, FAR_AWAY);
            }
            int byX = Math.abs(play.whereIs(object, 1) - actor.x);
            int byY = Math.abs(play.whereIs(object, 2) - actor.y);
            return store(slot, byX + byY);
        }
    }
}
