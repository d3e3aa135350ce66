import java.util.ArrayList;
import java.util.Collections;
import java.util.HashSet;
import java.util.List;
import java.util.Map;
import java.util.NoSuchElementException;
import java.util.Set;
import java.util.TreeMap;

/**
 * The document written a second time, as plainly and as slowly as it goes: every frame has a list of its own
 * values, lines are joined anew each time, and an instruction works on a copy that a fault throws away.
 */
final class PlainModel implements Instructions {
    record Value(int kind, int number) {
        static final Value NOTHING_AT_ALL = new Value(NIL, 0);

        static Value truth(boolean b) {
            return b ? new Value(TRUE, 1) : NOTHING_AT_ALL;
        }

        boolean isFalse() {
            return kind == NIL || kind == NUMBER && number == 0;
        }
    }

    private static final class Fault extends RuntimeException {
        private static final long serialVersionUID = 1;
    }

    private static final class Thing {
        final List<Integer> parents;
        final Map<Integer, Value> own = new TreeMap<>();

        Thing(List<Integer> parents) {
            this.parents = parents;
        }

        Thing copy() {
            Thing t = new Thing(parents);
            t.own.putAll(own);
            return t;
        }
    }

    private static final class Things {
        final Map<Integer, Thing> all = new TreeMap<>();

        Things copy() {
            Things t = new Things();
            all.forEach((o, thing) -> t.all.put(o, thing.copy()));
            return t;
        }
    }

    private static final class Call {
        int method;
        Integer self;
        Integer found;
        int place;
        int next;
        final List<Value> locals = new ArrayList<>();
        final List<Value> put = new ArrayList<>();

        Call copy() {
            Call c = new Call();
            c.method = method;
            c.self = self;
            c.found = found;
            c.place = place;
            c.next = next;
            c.locals.addAll(locals);
            c.put.addAll(put);
            return c;
        }
    }

    private static final class State {
        Things things = new Things();
        List<Call> calls = new ArrayList<>();
        List<Value> said = new ArrayList<>();
        List<Things> points = new ArrayList<>();
        Things[] saved = new Things[2];
        Value result;
        int outcome = -1;

        State copy() {
            State s = new State();
            s.things = things.copy();
            for (Call c : calls) {
                s.calls.add(c.copy());
            }
            s.said.addAll(said);
            s.points.addAll(points);
            s.saved = saved.clone();
            s.result = result;
            s.outcome = outcome;
            return s;
        }
    }

    /** How often instructions were done, and how often they were faults: a test that never gets to one is no test. */
    static final int[] DONE = new int[35];
    static final int[] FAULTS = new int[35];
    static int deepest;
    static int highest;

    private final List<Integer> code = new ArrayList<>();
    private State now = new State();

    boolean code(int word, int k) {
        if (k < 1 || k > 4 || code.size() + k > 300) {
            return false;
        }
        for (int i = k - 1; i >= 0; i--) {
            code.add(word >> 8 * i & 255);
        }
        return true;
    }

    int object(int a, int b, int c) {
        List<Integer> parents = new ArrayList<>();
        for (int parent : new int[] {a, b, c}) {
            if (parent == -1) {
                break;
            }
            if (parent < 0 || parent > 15 || !there(parent)) {
                throw new IllegalArgumentException();
            }
            parents.add(parent);
        }
        int number = 0;
        while (there(number) && number < 16) {
            number++;
        }
        if (number == 16 || now.outcome == 0) {
            throw new IllegalStateException();
        }
        now.things.all.put(number, new Thing(parents));
        now.saved = new Things[2];
        return number;
    }

    void property(int o, int p, int kind, int value) {
        if (!there(o)) {
            throw new NoSuchElementException();
        }
        if (p < 0 || p > 7 || kind < -1 || kind > 4 || kind == OBJECT && !there(value)
                || kind == METHOD && (value < 0 || value > 299)) {
            throw new IllegalArgumentException();
        }
        if (now.outcome == 0) {
            throw new IllegalStateException();
        }
        if (kind == -1) {
            now.things.all.get(o).own.remove(p);
        } else {
            now.things.all.get(o).own.put(p, new Value(kind, kind == NIL ? 0 : kind == TRUE ? 1 : value));
        }
    }

    void begin(int o, int p) {
        if (!there(o)) {
            throw new NoSuchElementException();
        }
        Integer holder = holder(line(o), p);
        if (holder == null || own(holder, p).kind() != METHOD) {
            throw new IllegalArgumentException();
        }
        State before = now.copy();
        now.calls.clear();
        now.said.clear();
        now.result = null;
        try {
            call(own(holder, p).number(), List.of(), o, holder);
        } catch (Fault e) {
            now = before;
            throw new IllegalArgumentException();
        }
        if (before.outcome == 0) {
            now = before;
            throw new IllegalStateException();
        }
        now.outcome = 0;
    }

    int run(int fuel) {
        for (int i = 0; i < Math.min(3000, fuel) && now.outcome == 0; i++) {
            State before = now.copy();
            int place = top().place;
            try {
                instruction();
                count(DONE, place);
            } catch (Fault e) {
                count(FAULTS, place);
                now = before;
                now.outcome = 3;
            }
            deepest = Math.max(deepest, now.calls.size());
            highest = Math.max(highest, stack().size());
            if (now.outcome != 0) {
                now.points.clear();
            }
        }
        return now.outcome;
    }

    private void count(int[] counts, int place) {
        if (place >= 0 && place < code.size() && code.get(place) < counts.length) {
            counts[code.get(place)]++;
        }
    }

    boolean stop() {
        if (now.outcome != 0) {
            return false;
        }
        now.outcome = 4;
        now.points.clear();
        return true;
    }

    int collect() {
        Set<Integer> kept = new HashSet<>();
        for (int o = 0; o < 16; o++) {
            keep(kept, o);
        }
        for (Call c : now.calls) {
            c.locals.forEach(v -> keep(kept, v));
            c.put.forEach(v -> keep(kept, v));
            keep(kept, c.self);
            keep(kept, c.found);
        }
        keep(kept, now.result);
        int before = now.things.all.size();
        now.things.all.keySet().retainAll(kept);
        return before - now.things.all.size();
    }

    private void keep(Set<Integer> kept, Value v) {
        if (v != null && v.kind() == OBJECT) {
            keep(kept, v.number());
        }
    }

    private void keep(Set<Integer> kept, Integer o) {
        if (o == null || !there(o) || !kept.add(o)) {
            return;
        }
        Thing t = now.things.all.get(o);
        for (Integer parent : t.parents) {
            keep(kept, parent);
        }
        for (Value v : t.own.values()) {
            keep(kept, v);
        }
    }

    private List<Value> stack() {
        List<Value> all = new ArrayList<>();
        for (Call c : now.calls) {
            all.addAll(c.locals);
            all.addAll(c.put);
        }
        return all;
    }

    int stack(int k, int what) {
        return part(stack(), k, what);
    }

    private static int part(List<Value> values, int k, int what) {
        if (k < 0 || k >= values.size() || what != 0 && what != 1) {
            throw new NoSuchElementException();
        }
        return what == 0 ? values.get(k).kind() : values.get(k).number();
    }

    int show(int what) {
        if (what < 0 || what > 5 || (what == 1 || what == 2) && now.calls.isEmpty()) {
            throw new NoSuchElementException();
        }
        return switch (what) {
            case 0 -> now.calls.size();
            case 1 -> top().place;
            case 2 -> top().self == null ? -1 : top().self;
            case 3 -> now.points.size();
            case 4 -> now.things.all.size();
            default -> now.said.size();
        };
    }

    int said(int k, int what) {
        if (k == -1) {
            return part(now.result == null ? List.of() : List.of(now.result), 0, what);
        }
        return part(now.said, k, what);
    }

    int has(int o, int p, int what) {
        Integer holder = there(o) ? holder(line(o), p) : null;
        if (holder == null || what < 0 || what > 2) {
            throw new NoSuchElementException();
        }
        return what == 2 ? holder : what == 0 ? own(holder, p).kind() : own(holder, p).number();
    }

    boolean isOf(int a, int b) {
        return there(a) && there(b) && line(a).contains(b);
    }

    private boolean there(int o) {
        return now.things.all.containsKey(o);
    }

    private Value own(int o, int p) {
        return now.things.all.get(o).own.get(p);
    }

    private List<Integer> line(int o) {
        List<Integer> joined = new ArrayList<>();
        joined.add(o);
        for (int parent : now.things.all.get(o).parents) {
            joined.addAll(line(parent));
        }
        List<Integer> line = new ArrayList<>();
        for (int i = 0; i < joined.size(); i++) {
            if (joined.lastIndexOf(joined.get(i)) == i) {
                line.add(joined.get(i));
            }
        }
        return line;
    }

    private Integer holder(List<Integer> line, int p) {
        for (int o : line) {
            if (own(o, p) != null) {
                return o;
            }
        }
        return null;
    }

    private Call top() {
        return now.calls.get(now.calls.size() - 1);
    }

    private static void must(boolean b) {
        if (!b) {
            throw new Fault();
        }
    }

    private int fetch() {
        int at = top().next++;
        must(at >= 0 && at < code.size());
        return code.get(at);
    }

    private int fetchAddress() {
        int high = fetch();
        return high * 256 + fetch();
    }

    private void put(Value v) {
        top().put.add(v);
        must(stack().size() <= 40);
    }

    private Value take() {
        must(!top().put.isEmpty());
        return top().put.remove(top().put.size() - 1);
    }

    private int takeObject() {
        Value v = take();
        must(v.kind() == OBJECT && there(v.number()));
        return v.number();
    }

    private int takeNumber() {
        Value v = take();
        must(v.kind() == NUMBER);
        return v.number();
    }

    private List<Value> takeArguments(int n) {
        must(n <= 3);
        List<Value> arguments = new ArrayList<>();
        for (int i = 0; i < n; i++) {
            arguments.add(take());
        }
        Collections.reverse(arguments);
        return arguments;
    }

    private int fetchObject() {
        int o = fetch();
        must(there(o));
        return o;
    }

    private int fetchProperty() {
        int p = fetch();
        must(p < 8);
        return p;
    }

    private int fetchSlot() {
        int s = fetch();
        must(s < 2);
        return s;
    }

    private int fetchLocal() {
        int k = fetch();
        must(k < top().locals.size());
        return k;
    }

    private void call(int method, List<Value> arguments, Integer self, Integer found) {
        must(method + 3 <= code.size());
        int locals = code.get(method + 1);
        int handlers = code.get(method + 2);
        must(code.get(method) == arguments.size() && locals <= 3 && handlers <= 3);
        must(method + 3 + 4 * handlers <= code.size());
        Call c = new Call();
        c.method = method;
        c.self = self;
        c.found = found;
        c.place = method + 3 + 4 * handlers;
        c.next = c.place;
        c.locals.addAll(arguments);
        c.locals.addAll(Collections.nCopies(locals, Value.NOTHING_AT_ALL));
        now.calls.add(c);
        must(now.calls.size() <= 8 && stack().size() <= 40);
    }

    private void answer(int o, List<Integer> line, int p, List<Value> arguments) {
        Integer holder = holder(line, p);
        if (holder != null && own(holder, p).kind() == METHOD) {
            call(own(holder, p).number(), arguments, o, holder);
            return;
        }
        must(arguments.isEmpty());
        put(holder == null ? Value.NOTHING_AT_ALL : own(holder, p));
    }

    private void end(Value v) {
        now.calls.remove(now.calls.size() - 1);
        if (now.calls.isEmpty()) {
            now.result = v;
            now.outcome = 1;
            return;
        }
        put(v);
        top().place = top().next;
    }

    private void raise(int o) {
        must(there(o));
        while (!now.calls.isEmpty()) {
            Call c = top();
            int handlers = code.get(c.method + 2);
            int beginning = c.method + 3 + 4 * handlers;
            for (int h = 0; h < handlers; h++) {
                List<Integer> handler = code.subList(c.method + 3 + 4 * h, c.method + 7 + 4 * h);
                int place = c.place - beginning;
                if (handler.get(0) <= place && place <= handler.get(1) && isOf(o, handler.get(2))) {
                    c.put.clear();
                    put(new Value(OBJECT, o));
                    c.place = beginning + handler.get(3);
                    return;
                }
            }
            now.calls.remove(c);
        }
        now.result = new Value(OBJECT, o);
        now.outcome = 2;
    }

    private void instruction() {
        Call c = top();
        c.next = c.place;
        int instruction = fetch();
        must(instruction <= 34);
        switch (instruction) {
            case ASK: case INHERITED: case CALL: case END: case END_NIL: case THROW:
                passOn(c, instruction);
                return;
            case JUMP: case UNLESS:
                int distance = (byte) fetch();
                boolean jumps = instruction == JUMP || take().isFalse();
                c.place = c.next + (jumps ? distance : 0);
                return;
            case PLUS: case MINUS: case TIMES: case OVER: case LESS:
                int b = takeNumber();
                int a = takeNumber();
                if (instruction == OVER && b == 0) {
                    raise(0);
                    return;
                }
                put(calculated(instruction, a, b));
                break;
            case SET: case MAKE: case TEST_OF: case POINT: case UNDO: case SAVE: case LOAD:
                changeThings(instruction);
                break;
            default:
                moveValues(c, instruction);
        }
        c.place = c.next;
    }

    private static Value calculated(int instruction, int a, int b) {
        return switch (instruction) {
            case PLUS -> new Value(NUMBER, (int) ((long) a + b));
            case MINUS -> new Value(NUMBER, (int) ((long) a - b));
            case TIMES -> new Value(NUMBER, (int) ((long) a * b));
            case OVER -> new Value(NUMBER, (int) ((long) a / b));
            default -> Value.truth(a < b);
        };
    }

    private void passOn(Call c, int instruction) {
        int n = instruction == ASK || instruction == INHERITED || instruction == CALL ? fetch() : 0;
        switch (instruction) {
            case ASK -> {
                int p = fetchProperty();
                int o = takeObject();
                answer(o, line(o), p, takeArguments(n));
            }
            case INHERITED -> {
                int p = fetchProperty();
                must(c.self != null && there(c.self) && c.found != null && there(c.found));
                List<Integer> line = line(c.self);
                int at = line.indexOf(c.found);
                answer(c.self, at < 0 ? List.of() : line.subList(at + 1, line.size()), p, takeArguments(n));
                if (top() == c) {
                    c.place = c.next;
                }
                return;
            }
            case CALL -> {
                int address = fetchAddress();
                call(address, takeArguments(n), null, null);
            }
            case END -> end(take());
            case END_NIL -> end(Value.NOTHING_AT_ALL);
            default -> raise(takeObject());
        }
        if (instruction == ASK && top() == c) {
            c.place = c.next;
        }
    }

    private void changeThings(int instruction) {
        switch (instruction) {
            case SET -> {
                int p = fetchProperty();
                int o = takeObject();
                now.things.all.get(o).own.put(p, take());
            }
            case MAKE -> {
                int parent = fetchObject();
                int number = 16;
                while (there(number)) {
                    number++;
                }
                must(number < 32);
                now.things.all.put(number, new Thing(List.of(parent)));
                put(new Value(OBJECT, number));
            }
            case TEST_OF -> {
                int o = fetchObject();
                Value v = take();
                put(Value.truth(v.kind() == OBJECT && isOf(v.number(), o)));
            }
            case POINT -> {
                now.points.add(now.things.copy());
                if (now.points.size() > 3) {
                    now.points.remove(0);
                }
            }
            case UNDO -> {
                boolean any = !now.points.isEmpty();
                if (any) {
                    now.things = now.points.remove(now.points.size() - 1);
                }
                put(Value.truth(any));
            }
            case SAVE -> now.saved[fetchSlot()] = now.things.copy();
            default -> {
                Things saved = now.saved[fetchSlot()];
                if (saved != null) {
                    now.things = saved.copy();
                    now.points.clear();
                }
                put(Value.truth(saved != null));
            }
        }
    }

    private void moveValues(Call c, int instruction) {
        switch (instruction) {
            case NOTHING -> { }
            case BYTE -> put(new Value(NUMBER, (byte) fetch()));
            case WORD -> {
                int high = fetchAddress();
                put(new Value(NUMBER, high * 65536 + fetchAddress()));
            }
            case PUT_NIL -> put(Value.NOTHING_AT_ALL);
            case PUT_TRUE -> put(Value.truth(true));
            case PUT_OBJECT -> put(new Value(OBJECT, fetchObject()));
            case PUT_METHOD -> put(new Value(METHOD, fetchAddress()));
            case LOCAL -> put(c.locals.get(fetchLocal()));
            case INTO -> c.locals.set(fetchLocal(), take());
            case SELF -> put(c.self == null ? Value.NOTHING_AT_ALL : new Value(OBJECT, c.self));
            case AGAIN -> {
                Value v = take();
                put(v);
                put(v);
            }
            case DROP -> take();
            case LIKE -> put(Value.truth(take().equals(take())));
            case NOT -> put(Value.truth(take().isFalse()));
            default -> {
                now.said.add(take());
                must(now.said.size() <= 50);
            }
        }
    }
}
