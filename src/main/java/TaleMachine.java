import java.util.Arrays;
import java.util.NoSuchElementException;

/**
 * A machine for told stories. The document (DOC.md) says what every call does;
 * the words of its section "Terms" are the words used here.
 */
public final class TaleMachine {
    private static final int NONE = -1;

    private static final int NIL = 0;
    private static final int TRUE = 1;
    private static final int NUMBER = 2;
    private static final int OBJECT = 3;
    private static final int METHOD = 4;

    private static final int FIXED = 16;
    private static final int MADE = 16;
    private static final int OBJECTS = FIXED + MADE;
    private static final int PROPERTIES = 8;

    private static final int MOST_BYTES = 300;
    private static final int MOST_VALUES = 40;
    private static final int MOST_FRAMES = 8;
    private static final int MOST_SAID = 50;
    private static final int MOST_POINTS = 3;
    private static final int SLOTS = 2;
    private static final int MOST_FUEL = 3000;
    private static final int MOST_OF_A_METHOD = 3;

    private static final int NOT_BEGUN = -1;
    private static final int UNDER_WAY = 0;
    private static final int ENDED = 1;
    private static final int UNCAUGHT = 2;
    private static final int FAULT = 3;
    private static final int STOPPED = 4;

    private final Script script;
    private final World world;
    private final History history;
    private final Teller teller;

    public TaleMachine() {
        script = new Script();
        world = new World();
        history = new History();
        teller = new Teller(script, world, history);
    }

    public boolean code(int word, int k) {
        return script.append(word, k);
    }

    public int object(int a, int b, int c) throws IllegalArgumentException, IllegalStateException {
        int parents = a == NONE ? 0 : b == NONE ? 1 : c == NONE ? 2 : 3;
        if (parents > 0 && !world.isFixed(a)
                || parents > 1 && !world.isFixed(b)
                || parents > 2 && !world.isFixed(c)) {
            throw new IllegalArgumentException("a parent is no fixed object that is there");
        }
        if (world.fixed == FIXED || teller.outcome == UNDER_WAY) {
            throw new IllegalStateException("no fixed object can be made now");
        }
        history.dropSaved();
        return world.fix(parents, a, b, c);
    }

    public void property(int o, int p, int kind, int value)
            throws NoSuchElementException, IllegalArgumentException, IllegalStateException {
        if (!world.isThere(o)) {
            throw new NoSuchElementException("no such object");
        }
        if (!isProperty(p) || kind < NONE || kind > METHOD
                || kind == OBJECT && !world.isThere(value)
                || kind == METHOD && (value < 0 || value >= MOST_BYTES)) {
            throw new IllegalArgumentException("no such property, or no such value");
        }
        if (teller.outcome == UNDER_WAY) {
            throw new IllegalStateException("a run is under way");
        }
        world.setOwn(o, p, kind, kind == NIL ? 0 : kind == TRUE ? 1 : value);
    }

    public void begin(int o, int p)
            throws NoSuchElementException, IllegalArgumentException, IllegalStateException {
        if (!world.isThere(o)) {
            throw new NoSuchElementException("no such object");
        }
        int holder = isProperty(p) ? world.holder(o, p) : NONE;
        if (holder == NONE || world.ownKind(holder, p) != METHOD
                || !script.isMethod(world.ownInt(holder, p), 0)) {
            throw new IllegalArgumentException("no method that can be called");
        }
        if (teller.outcome == UNDER_WAY) {
            throw new IllegalStateException("a run is under way");
        }
        teller.start(world.ownInt(holder, p), o, holder);
    }

    public int run(int fuel) {
        int most = Math.min(fuel, MOST_FUEL);
        for (int done = 0; done < most && teller.outcome == UNDER_WAY; done++) {
            if (!teller.perform()) {
                teller.halt(FAULT);
            }
        }
        return teller.outcome;
    }

    public boolean stop() {
        if (teller.outcome != UNDER_WAY) {
            return false;
        }
        teller.halt(STOPPED);
        return true;
    }

    public int collect() {
        world.forgetReached();
        teller.reachRoots();
        return world.sweep();
    }

    public int stack(int k, int what) throws NoSuchElementException {
        return part(teller.values, k, what);
    }

    public int show(int what) throws NoSuchElementException {
        if ((what == 1 || what == 2) && teller.depth == 0) {
            throw new NoSuchElementException("no frame");
        }
        switch (what) {
            case 0: return teller.depth;
            case 1: return teller.top().place;
            case 2: return teller.top().self;
            case 3: return history.points;
            case 4: return world.count();
            case 5: return teller.sayings.count;
            default: throw new NoSuchElementException("nothing of that kind to show");
        }
    }

    public int said(int k, int what) throws NoSuchElementException {
        return k == -1 ? part(teller.result, 0, what) : part(teller.sayings, k, what);
    }

    public int has(int o, int p, int what) throws NoSuchElementException {
        int holder = world.isThere(o) && isProperty(p) ? world.holder(o, p) : NONE;
        if (holder == NONE || what < 0 || what > 2) {
            throw new NoSuchElementException("nothing that it has");
        }
        return what == 0 ? world.ownKind(holder, p) : what == 1 ? world.ownInt(holder, p) : holder;
    }

    public boolean isOf(int a, int b) {
        return world.descends(a, b);
    }

    private static boolean isProperty(int p) {
        return p >= 0 && p < PROPERTIES;
    }

    private static int part(Values row, int k, int what) {
        if (k < 0 || k >= row.count || what < 0 || what > 1) {
            throw new NoSuchElementException("no such value");
        }
        return what == 0 ? row.kinds[k] : row.ints[k];
    }

    /** The code: bytes that are only ever appended, so a method's head can be read again at any time. */
    private static final class Script {
        static final int HEAD = 3;
        static final int HANDLER = 4;

        /** How many bytes each instruction has, its own among them. */
        private static final int[] LENGTHS = {
            1, 2, 5, 1, 1, 2, 3, 2, 2, 1, 1, 1,
            1, 1, 1, 1, 1, 1, 1, 2, 2,
            3, 2, 3, 4,
            1, 1, 1, 2, 2, 1,
            1, 1, 2, 2
        };

        private final int[] bytes = new int[MOST_BYTES];
        private int length;

        boolean append(int word, int k) {
            if (k < 1 || k > 4 || length + k > MOST_BYTES) {
                return false;
            }
            for (int i = k - 1; i >= 0; i--) {
                bytes[length] = word >>> 8 * i & 0xFF;
                length++;
            }
            return true;
        }

        /** The byte at an address, 0 .. 255, or NONE outside of the code. */
        int at(int address) {
            return address >= 0 && address < length ? bytes[address] : NONE;
        }

        int address(int from) {
            return at(from) << 8 | at(from + 1);
        }

        int number(int from) {
            return address(from) << 16 | address(from + 2);
        }

        /** The instruction that stands there whole, or NONE. */
        int instruction(int place) {
            int first = at(place);
            return first != NONE && first < LENGTHS.length && place + LENGTHS[first] <= length ? first : NONE;
        }

        int behind(int place, int instruction) {
            return instruction == NONE ? place : place + LENGTHS[instruction];
        }

        /** Whether a method that can be called with so many arguments stands there up to its beginning. */
        boolean isMethod(int address, int arguments) {
            int locals = at(address + 1);
            int handlers = at(address + 2);
            return arguments <= MOST_OF_A_METHOD && at(address) == arguments
                    && locals != NONE && locals <= MOST_OF_A_METHOD
                    && handlers != NONE && handlers <= MOST_OF_A_METHOD
                    && address + HEAD + HANDLER * handlers <= length;
        }

        int locals(int method) {
            return at(method + 1);
        }

        int beginning(int method) {
            return method + HEAD + HANDLER * at(method + 2);
        }
    }

    /** Values in a row, each a kind and an int, up to a limit. */
    private static final class Values {
        final int[] kinds;
        final int[] ints;
        int count;

        Values(int limit) {
            kinds = new int[limit];
            ints = new int[limit];
        }

        boolean isFull() {
            return count >= kinds.length;
        }

        boolean add(int kind, int number) {
            if (count >= kinds.length) {
                return false;
            }
            kinds[count] = kind;
            ints[count] = number;
            count++;
            return true;
        }
    }

    /** One call that has not ended: where it is, and where its values lie on the stack. */
    private static final class Frame {
        int method;
        int beginning;
        int self;
        int found;
        int place;
        /** The place behind its running instruction, kept for when what that calls has ended. */
        int behind;
        /** Its first argument's index on the stack. */
        int base;
        /** The index behind its last local: what lies from here on can be taken. */
        int floor;
    }

    /** All of the objects that can change while fixed objects stay the same: what points and saving copy. */
    private static final class State {
        final int[] kinds = new int[OBJECTS * PROPERTIES];
        final int[] ints = new int[OBJECTS * PROPERTIES];
        /** For each number of a made object its parent, or NONE if it is not there. */
        final int[] parents = new int[MADE];

        State() {
            Arrays.fill(kinds, NONE);
            Arrays.fill(parents, NONE);
        }

        void copy(State other) {
            System.arraycopy(other.kinds, 0, kinds, 0, kinds.length);
            System.arraycopy(other.ints, 0, ints, 0, ints.length);
            System.arraycopy(other.parents, 0, parents, 0, parents.length);
        }
    }

    /** The points, the oldest first, and what is saved. */
    private static final class History {
        private final State[] pointed = new State[MOST_POINTS];
        private final State[] saved = new State[SLOTS];
        private final boolean[] isSaved = new boolean[SLOTS];
        int points;

        History() {
            for (int i = 0; i < MOST_POINTS; i++) {
                pointed[i] = new State();
            }
            for (int i = 0; i < SLOTS; i++) {
                saved[i] = new State();
            }
        }

        void setPoint(State now) {
            if (points == MOST_POINTS) {
                dropOldest();
            }
            pointed[points].copy(now);
            points++;
        }

        private void dropOldest() {
            State oldest = pointed[0];
            for (int i = 1; i < MOST_POINTS; i++) {
                pointed[i - 1] = pointed[i];
            }
            pointed[MOST_POINTS - 1] = oldest;
            points--;
        }

        boolean undo(State now) {
            if (points == 0) {
                return false;
            }
            points--;
            now.copy(pointed[points]);
            return true;
        }

        void save(int slot, State now) {
            saved[slot].copy(now);
            isSaved[slot] = true;
        }

        boolean bringBack(int slot, State now) {
            if (!isSaved[slot]) {
                return false;
            }
            now.copy(saved[slot]);
            points = 0;
            return true;
        }

        void dropPoints() {
            points = 0;
        }

        void dropSaved() {
            for (int i = 0; i < SLOTS; i++) {
                isSaved[i] = false;
            }
        }
    }

    /** The objects, their lines, and which of them can be come to. */
    private static final class World {
        final State now = new State();
        int fixed;

        /** The lines of the fixed objects, FIXED places for each: they never change. */
        private final int[] fixedLines = new int[FIXED * FIXED];
        private final int[] fixedLengths = new int[FIXED];

        /** The line that was laid last. */
        private final int[] line = new int[OBJECTS];
        private int length;

        /** The objects that were come to, in this order, and as bits. */
        private final int[] reached = new int[OBJECTS];
        private int reachedCount;
        private int reachedBits;

        boolean isFixed(int o) {
            return o >= 0 && o < fixed;
        }

        boolean isThere(int o) {
            return isFixed(o) || o >= FIXED && o < OBJECTS && now.parents[o - FIXED] != NONE;
        }

        int count() {
            int there = fixed;
            for (int i = 0; i < MADE; i++) {
                if (now.parents[i] != NONE) {
                    there++;
                }
            }
            return there;
        }

        int ownKind(int o, int p) {
            return now.kinds[o * PROPERTIES + p];
        }

        int ownInt(int o, int p) {
            return now.ints[o * PROPERTIES + p];
        }

        void setOwn(int o, int p, int kind, int number) {
            now.kinds[o * PROPERTIES + p] = kind;
            now.ints[o * PROPERTIES + p] = number;
        }

        /** A new fixed object with the first so many of a, b and c as its parents. */
        int fix(int parents, int a, int b, int c) {
            // From the back, because of an object that comes more than once the last time counts.
            length = 0;
            int seen = 0;
            for (int i = parents - 1; i >= 0; i--) {
                seen = gather(i == 0 ? a : i == 1 ? b : c, seen);
            }
            int start = fixed * FIXED;
            fixedLines[start] = fixed;
            for (int i = 0; i < length; i++) {
                fixedLines[start + 1 + i] = line[length - 1 - i];
            }
            fixedLengths[fixed] = length + 1;
            fixed++;
            return fixed - 1;
        }

        private int gather(int parent, int seenBefore) {
            int seen = seenBefore;
            for (int i = fixedLengths[parent] - 1; i >= 0; i--) {
                int o = fixedLines[parent * FIXED + i];
                if ((seen >>> o & 1) == 0) {
                    seen |= 1 << o;
                    line[length] = o;
                    length++;
                }
            }
            return seen;
        }

        /** A made object of the lowest free number, or NONE, if none is free. */
        int make(int parent) {
            for (int i = 0; i < MADE; i++) {
                if (now.parents[i] == NONE) {
                    now.parents[i] = parent;
                    clearOwn(FIXED + i);
                    return FIXED + i;
                }
            }
            return NONE;
        }

        private void clearOwn(int o) {
            for (int p = 0; p < PROPERTIES; p++) {
                setOwn(o, p, NONE, 0);
            }
        }

        /** Lays the line of an object that is there: made ones have one parent each, down to a fixed one. */
        void lay(int o) {
            length = 0;
            int at = o;
            while (at >= FIXED && length < MADE) {
                line[length] = at;
                length++;
                at = now.parents[at - FIXED];
            }
            if (isFixed(at)) {
                System.arraycopy(fixedLines, at * FIXED, line, length, fixedLengths[at]);
                length += fixedLengths[at];
            }
        }

        /** Where an object stands in the line that was laid last, or NONE. */
        int inLine(int o) {
            for (int i = 0; i < length; i++) {
                if (line[i] == o) {
                    return i;
                }
            }
            return NONE;
        }

        private int holderFrom(int start, int p) {
            for (int i = start; i < length; i++) {
                if (ownKind(line[i], p) != NONE) {
                    return line[i];
                }
            }
            return NONE;
        }

        /** The object whose own value is what o has for p, or NONE. */
        int holder(int o, int p) {
            lay(o);
            return holderFrom(0, p);
        }

        /** The same, but only behind the object found along o's line. */
        int holderBehind(int found, int o, int p) {
            lay(o);
            int at = inLine(found);
            return at == NONE ? NONE : holderFrom(at + 1, p);
        }

        boolean descends(int a, int b) {
            if (!isThere(a) || !isThere(b)) {
                return false;
            }
            lay(a);
            return inLine(b) != NONE;
        }

        void forgetReached() {
            reachedCount = 0;
            reachedBits = 0;
        }

        void reach(int o) {
            if (isThere(o) && (reachedBits >>> o & 1) == 0) {
                reachedBits |= 1 << o;
                reached[reachedCount] = o;
                reachedCount++;
            }
        }

        void reachValue(int kind, int number) {
            if (kind == OBJECT) {
                reach(number);
            }
        }

        /** Lets the made objects go that cannot be come to; answers how many went. */
        int sweep() {
            for (int o = 0; o < fixed; o++) {
                reach(o);
            }
            for (int i = 0; i < reachedCount && i < OBJECTS; i++) {
                reachFrom(reached[i]);
            }
            int gone = 0;
            for (int o = FIXED; o < OBJECTS; o++) {
                if (isThere(o) && (reachedBits >>> o & 1) == 0) {
                    now.parents[o - FIXED] = NONE;
                    gone++;
                }
            }
            return gone;
        }

        private void reachFrom(int o) {
            // A fixed object's parents are fixed, and those are all come to.
            if (o >= FIXED) {
                reach(now.parents[o - FIXED]);
            }
            for (int p = 0; p < PROPERTIES; p++) {
                reachValue(ownKind(o, p), ownInt(o, p));
            }
        }
    }

    /**
     * The run. What does an instruction answers false for a fault, and has then changed nothing:
     * so each looks at all that could be wrong before it takes or puts.
     */
    private static final class Teller {
        private static final int NOTHING = 0;
        private static final int PUT_BYTE = 1;
        private static final int PUT_NUMBER = 2;
        private static final int PUT_NIL = 3;
        private static final int PUT_TRUE = 4;
        private static final int PUT_OBJECT = 5;
        private static final int PUT_METHOD = 6;
        private static final int PUT_LOCAL = 7;
        private static final int TAKE_LOCAL = 8;
        private static final int PUT_SELF = 9;
        private static final int PUT_AGAIN = 10;
        private static final int TAKE = 11;
        private static final int PLUS = 12;
        private static final int MINUS = 13;
        private static final int TIMES = 14;
        private static final int OVER = 15;
        private static final int LESS = 16;
        private static final int LIKE = 17;
        private static final int NOT = 18;
        private static final int JUMP = 19;
        private static final int JUMP_IF_FALSE = 20;
        private static final int ASK = 21;
        private static final int SET = 22;
        private static final int INHERITED = 23;
        private static final int CALL = 24;
        private static final int END = 25;
        private static final int END_NIL = 26;
        private static final int THROW = 27;
        private static final int MAKE = 28;
        private static final int TEST_OF = 29;
        private static final int SAY = 30;
        private static final int SET_POINT = 31;
        private static final int UNDO = 32;
        private static final int SAVE = 33;
        private static final int BRING_BACK = 34;

        private final Script script;
        private final World world;
        private final History history;
        private final Frame[] frames = new Frame[MOST_FRAMES];
        final Values values = new Values(MOST_VALUES);
        final Values sayings = new Values(MOST_SAID);
        /** One value, or none while there is no result. */
        final Values result = new Values(1);
        int depth;
        int outcome = NOT_BEGUN;

        Teller(Script script, World world, History history) {
            this.script = script;
            this.world = world;
            this.history = history;
            for (int i = 0; i < MOST_FRAMES; i++) {
                frames[i] = new Frame();
            }
        }

        /** The topmost frame; asked for only while there is one. */
        Frame top() {
            return frames[depth > 0 ? depth - 1 : 0];
        }

        void start(int method, int self, int found) {
            depth = 0;
            values.count = 0;
            sayings.count = 0;
            result.count = 0;
            outcome = UNDER_WAY;
            enter(method, 0, 0, self, found);
        }

        void halt(int how) {
            outcome = how;
            history.dropPoints();
        }

        private boolean finish(int how, int kind, int number) {
            depth = 0;
            values.count = 0;
            result.add(kind, number);
            halt(how);
            return true;
        }

        void reachRoots() {
            for (int i = 0; i < values.count; i++) {
                world.reachValue(values.kinds[i], values.ints[i]);
            }
            for (int i = 0; i < depth; i++) {
                world.reach(frames[i].self);
                world.reach(frames[i].found);
            }
            if (result.count > 0) {
                world.reachValue(result.kinds[0], result.ints[0]);
            }
        }

        /** Does one instruction of the topmost frame. */
        boolean perform() {
            Frame f = top();
            int instruction = script.instruction(f.place);
            f.behind = script.behind(f.place, instruction);
            int b = script.at(f.place + 1);
            switch (instruction) {
                case NOTHING: return goOn(f);
                case PUT_BYTE: return put(f, NUMBER, (byte) b);
                case PUT_NUMBER: return put(f, NUMBER, script.number(f.place + 1));
                case PUT_NIL: return put(f, NIL, 0);
                case PUT_TRUE: return put(f, TRUE, 1);
                case PUT_OBJECT: return world.isThere(b) && put(f, OBJECT, b);
                case PUT_METHOD: return put(f, METHOD, script.address(f.place + 1));
                case PUT_LOCAL: return isLocal(f, b) && putCopy(f, f.base + b);
                case TAKE_LOCAL: return takeIntoLocal(f, b);
                case PUT_SELF: return f.self == NONE ? put(f, NIL, 0) : put(f, OBJECT, f.self);
                case PUT_AGAIN: return canTake(f, 1) && putCopy(f, values.count - 1);
                case TAKE: return canTake(f, 1) && take(f, 1);
                case PLUS: case MINUS: case TIMES: case OVER: case LESS: return calculate(f, instruction);
                case LIKE: return like(f);
                case NOT: return canTake(f, 1) && putTruthFor(f, 1, isFalse(values.count - 1));
                case JUMP: return jump(f, (byte) b);
                case JUMP_IF_FALSE: return jumpIfFalse(f, (byte) b);
                case ASK: return ask(f, b, script.at(f.place + 2));
                case SET: return setOwn(f, b);
                case INHERITED: return inherited(f, b, script.at(f.place + 2));
                case CALL: return canTake(f, b) && enter(script.address(f.place + 2), b, 0, NONE, NONE);
                case END: return canTake(f, 1) && end(f, topKind(), topInt());
                case END_NIL: return end(f, NIL, 0);
                case THROW: return isObjectOnTop(f) && raise(topInt());
                case MAKE: return make(f, b);
                case TEST_OF: return testOf(f, b);
                case SAY: return canTake(f, 1) && sayings.add(topKind(), topInt()) && take(f, 1);
                case SET_POINT: return setPoint(f);
                case UNDO: return !values.isFull() && putTruthFor(f, 0, history.undo(world.now));
                case SAVE: return save(f, b);
                case BRING_BACK: return bringBack(f, b);
                default: return false;
            }
        }

        private boolean goOn(Frame f) {
            f.place = f.behind;
            return true;
        }

        private boolean put(Frame f, int kind, int number) {
            return values.add(kind, number) && goOn(f);
        }

        private boolean putCopy(Frame f, int from) {
            return put(f, values.kinds[from], values.ints[from]);
        }

        private boolean putTruthFor(Frame f, int taken, boolean truth) {
            values.count -= taken;
            return truth ? put(f, TRUE, 1) : put(f, NIL, 0);
        }

        private boolean canTake(Frame f, int n) {
            return values.count - n >= f.floor;
        }

        private boolean take(Frame f, int n) {
            values.count -= n;
            return goOn(f);
        }

        private int topKind() {
            return values.kinds[values.count - 1];
        }

        private int topInt() {
            return values.ints[values.count - 1];
        }

        private boolean isObjectOnTop(Frame f) {
            return canTake(f, 1) && topKind() == OBJECT && world.isThere(topInt());
        }

        private boolean isFalse(int at) {
            return values.kinds[at] == NIL || values.kinds[at] == NUMBER && values.ints[at] == 0;
        }

        private boolean isLocal(Frame f, int k) {
            return k >= 0 && k < f.floor - f.base;
        }

        private boolean takeIntoLocal(Frame f, int k) {
            if (!isLocal(f, k) || !canTake(f, 1)) {
                return false;
            }
            values.kinds[f.base + k] = topKind();
            values.ints[f.base + k] = topInt();
            return take(f, 1);
        }

        private boolean calculate(Frame f, int operation) {
            int second = values.count - 1;
            int first = second - 1;
            if (!canTake(f, 2) || values.kinds[first] != NUMBER || values.kinds[second] != NUMBER) {
                return false;
            }
            int a = values.ints[first];
            int b = values.ints[second];
            if (operation == OVER && b == 0) {
                return world.isThere(0) && raise(0);
            }
            if (operation == LESS) {
                return putTruthFor(f, 2, a < b);
            }
            values.count -= 2;
            return put(f, NUMBER, number(operation, a, b));
        }

        private static int number(int operation, int a, int b) {
            switch (operation) {
                case PLUS: return a + b;
                case MINUS: return a - b;
                case TIMES: return a * b;
                default: return b == 0 ? 0 : a / b;
            }
        }

        private boolean like(Frame f) {
            int second = values.count - 1;
            int first = second - 1;
            return canTake(f, 2) && putTruthFor(f, 2, values.kinds[first] == values.kinds[second]
                    && values.ints[first] == values.ints[second]);
        }

        private boolean jump(Frame f, int distance) {
            f.place = f.behind + distance;
            return true;
        }

        private boolean jumpIfFalse(Frame f, int distance) {
            if (!canTake(f, 1)) {
                return false;
            }
            boolean jumps = isFalse(values.count - 1);
            values.count--;
            return jump(f, jumps ? distance : 0);
        }

        private boolean ask(Frame f, int n, int p) {
            if (!isProperty(p) || !isObjectOnTop(f) || !canTake(f, n + 1)) {
                return false;
            }
            int o = topInt();
            return answer(f, o, world.holder(o, p), p, n, 1);
        }

        private boolean inherited(Frame f, int n, int p) {
            if (!isProperty(p) || !canTake(f, n) || !world.isThere(f.self) || !world.isThere(f.found)) {
                return false;
            }
            return answer(f, f.self, world.holderBehind(f.found, f.self, p), p, n, 0);
        }

        /** Calls or puts what o has for p as holder's own; above the arguments lie so many values that go. */
        private boolean answer(Frame f, int o, int holder, int p, int n, int above) {
            int kind = holder == NONE ? NIL : world.ownKind(holder, p);
            int number = holder == NONE ? 0 : world.ownInt(holder, p);
            if (kind == METHOD) {
                return enter(number, n, above, o, holder);
            }
            if (n != 0) {
                return false;
            }
            values.count -= above;
            return put(f, kind, number);
        }

        private boolean enter(int method, int n, int above, int self, int found) {
            if (depth == MOST_FRAMES || !script.isMethod(method, n)
                    || values.count - above + script.locals(method) > MOST_VALUES) {
                return false;
            }
            values.count -= above;
            Frame f = frames[depth];
            depth++;
            f.method = method;
            f.beginning = script.beginning(method);
            f.self = self;
            f.found = found;
            f.place = f.beginning;
            f.base = values.count - n;
            for (int i = script.locals(method); i > 0; i--) {
                values.add(NIL, 0);
            }
            f.floor = values.count;
            return true;
        }

        private boolean setOwn(Frame f, int p) {
            if (!isProperty(p) || !isObjectOnTop(f) || !canTake(f, 2)) {
                return false;
            }
            int value = values.count - 2;
            world.setOwn(topInt(), p, values.kinds[value], values.ints[value]);
            return take(f, 2);
        }

        private boolean end(Frame f, int kind, int number) {
            if (depth == 1) {
                return finish(ENDED, kind, number);
            }
            // A frame without values of its own may lie on a full stack, with no room for what it ends with.
            if (f.base >= MOST_VALUES) {
                return false;
            }
            depth--;
            values.count = f.base;
            return put(top(), kind, number);
        }

        /** Throws an object that is there. */
        private boolean raise(int o) {
            world.lay(o);
            for (int i = depth - 1; i >= 0; i--) {
                Frame f = frames[i];
                int goal = goal(f);
                if (goal != NONE) {
                    depth = i + 1;
                    values.count = f.floor;
                    values.add(OBJECT, o);
                    f.place = goal;
                    return true;
                }
            }
            return finish(UNCAUGHT, OBJECT, o);
        }

        /** Where the frame goes on when the object is thrown whose line was laid last, or NONE. */
        private int goal(Frame f) {
            int place = f.place - f.beginning;
            for (int at = f.method + Script.HEAD; at < f.beginning; at += Script.HANDLER) {
                if (script.at(at) <= place && place <= script.at(at + 1)
                        && world.inLine(script.at(at + 2)) != NONE) {
                    return f.beginning + script.at(at + 3);
                }
            }
            return NONE;
        }

        private boolean make(Frame f, int parent) {
            if (!world.isThere(parent) || values.isFull()) {
                return false;
            }
            int made = world.make(parent);
            return made != NONE && put(f, OBJECT, made);
        }

        private boolean testOf(Frame f, int o) {
            return world.isThere(o) && canTake(f, 1)
                    && putTruthFor(f, 1, topKind() == OBJECT && world.descends(topInt(), o));
        }

        private boolean setPoint(Frame f) {
            history.setPoint(world.now);
            return goOn(f);
        }

        private boolean save(Frame f, int slot) {
            if (slot < 0 || slot >= SLOTS) {
                return false;
            }
            history.save(slot, world.now);
            return goOn(f);
        }

        private boolean bringBack(Frame f, int slot) {
            return slot >= 0 && slot < SLOTS && !values.isFull()
                    && putTruthFor(f, 0, history.bringBack(slot, world.now));
        }
    }
}
