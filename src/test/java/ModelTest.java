import java.util.Arrays;
import java.util.Map;
import java.util.Random;
import java.util.TreeMap;
import java.util.function.IntSupplier;

/** Many made-up runs of calls: every answer of the machine is the answer of the plain model. */
final class ModelTest implements Instructions {
    private static final int SLOT = 37;
    private static final int SLOTS = 8;
    private static final int CALLS = 512;

    /** Of the phrases those that one mood likes: any; points and states; asking and inheriting; throwing. */
    private static final int[][] LIKED = {
        {}, {9, 14, 14, 14, 15, 15, 16, 22, 24}, {4, 5, 6, 7, 9, 11, 24}, {4, 6, 8, 12, 12, 13}};
    private static final int HISTORY = 1;
    private static final int THROWING = 3;

    private final Random random;
    private final long seed;
    private final int mood;
    private final TaleMachine machine = new TaleMachine();
    private final PlainModel model = new PlainModel();
    private final int[] code = new int[SLOT * SLOTS];
    private int at;
    private int calls;
    private int fixed;
    private int outcome = -1;
    private boolean failed;

    private static final Map<String, Integer> seen = new TreeMap<>();

    private ModelTest(long seed) {
        this.seed = seed;
        random = new Random(seed);
        mood = (int) (seed % LIKED.length);
    }

    public static void main(String[] args) {
        int runs = args.length > 0 ? Integer.parseInt(args[0]) : 6000;
        for (int seed = 0; seed < runs; seed++) {
            new ModelTest(seed).tell();
        }
        if (args.length > 0) {
            System.out.println(seen + " done " + Arrays.toString(PlainModel.DONE)
                    + " faults " + Arrays.toString(PlainModel.FAULTS)
                    + " frames " + PlainModel.deepest + " values " + PlainModel.highest);
        }
        for (int due = 0; due <= 4; due++) {
            Check.yes("a run that answered " + due, seen.getOrDefault("run " + due, 0) > 0);
        }
        for (int instruction = 0; instruction < PlainModel.DONE.length; instruction++) {
            Check.yes("instruction " + instruction + " was done", PlainModel.DONE[instruction] > 0);
        }
        Check.same("frames", PlainModel.deepest, 8);
        Check.same("values", PlainModel.highest, 40);
        Check.end();
    }

    private int below(int n) {
        return random.nextInt(n);
    }

    private boolean oneIn(int n) {
        return below(n) == 0;
    }

    private static String answer(IntSupplier call) {
        try {
            return "" + call.getAsInt();
        } catch (RuntimeException e) {
            return e.getClass().getSimpleName();
        }
    }

    private String both(String what, IntSupplier ofMachine, IntSupplier ofModel) {
        calls++;
        String got = answer(ofMachine);
        String due = answer(ofModel);
        if (!got.equals(due)) {
            failed = true;
        }
        Check.same("seed " + seed + ", call " + calls + ", " + what, got, due);
        return due;
    }

    private void tell() {
        makeObjects();
        writeCode();
        giveProperties();
        while (calls < CALLS && !failed) {
            change();
            for (int i = 0; i < 5 && calls < CALLS && !failed; i++) {
                look();
            }
        }
    }

    private void makeObjects() {
        int many = oneIn(4) ? 16 : 1 + below(7);
        for (int i = 0; i < many; i++) {
            object(i == 0 || oneIn(5) ? -1 : below(i), i == 0 || oneIn(3) ? -1 : below(i), i == 0 ? -1 : below(i + 1) - 1);
        }
    }

    private void object(int a, int b, int c) {
        String due = both("object(" + a + ", " + b + ", " + c + ")",
                () -> machine.object(a, b, c), () -> model.object(a, b, c));
        if (Character.isDigit(due.charAt(0))) {
            fixed++;
        }
    }

    private void property(int o, int p, int kind, int value) {
        both("property(" + o + ", " + p + ", " + kind + ", " + value + ")", () -> {
            machine.property(o, p, kind, value);
            return 0;
        }, () -> {
            model.property(o, p, kind, value);
            return 0;
        });
    }

    private void code(int word, int k) {
        both("code(" + word + ", " + k + ")", () -> machine.code(word, k) ? 1 : 0, () -> model.code(word, k) ? 1 : 0);
    }

    private int anyObject() {
        return oneIn(40) ? below(34) - 1 : oneIn(3) ? 16 + below(4) : below(Math.max(1, fixed));
    }

    /** Methods with p % 4 arguments are likely for property p. */
    private int methodFor(int arguments) {
        return SLOT * (arguments + 4 * below(SLOTS / 4));
    }

    private void giveProperties() {
        for (int p = 0; p < 8; p += mood == 0 ? 4 : 1) {
            property(0, p, METHOD, methodFor(p & 3));
        }
        for (int i = below(8) + fixed; i > 0; i--) {
            randomProperty();
        }
    }

    private void randomProperty() {
        int p = oneIn(60) ? below(10) - 1 : below(8);
        int kind = oneIn(2) ? METHOD : oneIn(40) ? below(8) - 2 : below(6) - 1;
        int value = kind == METHOD && !oneIn(30) ? methodFor(p & 3) : kind == OBJECT ? anyObject() : below(305) - 2;
        property(anyObject(), p, kind, value);
    }

    private void change() {
        int which = below(20);
        if (which < 10 && outcome == 0) {
            int fuel = oneIn(8) ? below(150) - 3 : 1 + below(6);
            String due = both("run(" + fuel + ")", () -> machine.run(fuel), () -> model.run(fuel));
            outcome = Integer.parseInt(due);
            seen.merge("run " + due, 1, Integer::sum);
        } else if (which < 12) {
            both("collect()", machine::collect, model::collect);
        } else if (which < 15 && outcome != 0) {
            randomProperty();
        } else if (which == 15 && oneIn(mood == HISTORY ? 2 : 4)) {
            object(oneIn(2) ? below(fixed + 1) - 1 : anyObject(), below(fixed + 2) - 1, oneIn(2) ? -1 : anyObject());
        } else if (which == 16 && oneIn(12)) {
            String due = both("stop()", () -> machine.stop() ? 1 : 0, () -> model.stop() ? 1 : 0);
            outcome = due.equals("1") ? 4 : outcome;
            seen.merge("run 4", due.equals("1") ? 1 : 0, Integer::sum);
        } else if (which == 17 && oneIn(8)) {
            code(random.nextInt(), below(7) - 1);
        } else if (outcome != 0 || oneIn(30)) {
            begin(oneIn(3) ? anyObject() : below(Math.max(1, fixed)), oneIn(6) ? below(10) - 1 : 4 * below(2));
        }
    }

    private void begin(int o, int p) {
        String due = both("begin(" + o + ", " + p + ")", () -> {
            machine.begin(o, p);
            return 0;
        }, () -> {
            model.begin(o, p);
            return 0;
        });
        outcome = due.equals("0") ? 0 : outcome;
    }

    private void look() {
        int what = oneIn(20) ? below(6) - 2 : below(2);
        int o = anyObject();
        switch (below(8)) {
            case 0, 1 -> {
                int k = below(oneIn(5) ? 43 : 8) - 1;
                both("stack(" + k + ", " + what + ")", () -> machine.stack(k, what), () -> model.stack(k, what));
            }
            case 2, 3 -> {
                int shown = oneIn(20) ? below(10) - 2 : mood == HISTORY && oneIn(2) ? 3 + below(2) : below(6);
                both("show(" + shown + ")", () -> machine.show(shown), () -> model.show(shown));
            }
            case 4 -> {
                int k = below(oneIn(5) ? 53 : 5) - 2;
                both("said(" + k + ", " + what + ")", () -> machine.said(k, what), () -> model.said(k, what));
            }
            case 5 -> {
                int b = anyObject();
                both("isOf(" + o + ", " + b + ")", () -> machine.isOf(o, b) ? 1 : 0, () -> model.isOf(o, b) ? 1 : 0);
            }
            default -> {
                int p = oneIn(20) ? below(10) - 1 : below(8);
                int part = oneIn(3) ? 2 : what;
                both("has(" + o + ", " + p + ", " + part + ")", () -> machine.has(o, p, part), () -> model.has(o, p, part));
            }
        }
    }

    private void writeCode() {
        for (int slot = 0; slot < SLOTS; slot++) {
            at = slot * SLOT;
            writeMethod(slot & 3, (slot + 1) * SLOT);
        }
        for (int i = 0; i < code.length; i += 4) {
            int k = Math.min(4, code.length - i);
            int word = 0;
            for (int j = 0; j < k; j++) {
                word = word << 8 | code[i + j] & 255;
            }
            code(word, k);
        }
    }

    private void write(int... bytes) {
        for (int b : bytes) {
            if (at < code.length) {
                code[at++] = b;
            }
        }
    }

    private void writeMethod(int arguments, int end) {
        int locals = oneIn(20) ? below(6) : below(3);
        int handlers = oneIn(20) ? below(5) : mood == THROWING ? 1 + below(3) : below(3);
        write(arguments, locals, handlers);
        for (int i = 0; i < handlers && i < 4; i++) {
            int from = mood == THROWING ? 0 : below(12);
            write(from, from + below(24), oneIn(2) ? 0 : anyObject(), oneIn(3) ? below(30) : 18 + below(5));
        }
        while (at < end - 10) {
            phrase(arguments + locals);
        }
        write(oneIn(2) ? SELF : PUT_TRUE, oneIn(3) ? END : END_NIL);
        while (at < end) {
            write(oneIn(3) ? END_NIL : NOTHING);
        }
    }

    private void value(int locals) {
        switch (below(9)) {
            case 0 -> write(PUT_NIL);
            case 1 -> write(PUT_TRUE);
            case 2, 3 -> write(BYTE, below(6) - 2);
            case 4 -> write(PUT_OBJECT, namedObject());
            case 5 -> write(SELF);
            case 6 -> write(MAKE, namedObject());
            case 7 -> write(locals == 0 && !oneIn(20) ? BYTE : LOCAL, oneIn(60) ? 3 : below(Math.max(1, locals)));
            default -> write(PUT_TRUE, AGAIN, LIKE);
        }
    }

    /** In code a made one is less likely, for mostly it is not there. */
    private int namedObject() {
        return oneIn(12) ? anyObject() : below(Math.max(1, fixed));
    }

    private void target() {
        switch (below(mood == HISTORY ? 3 : 5)) {
            case 0 -> write(SELF);
            case 1 -> write(MAKE, namedObject());
            default -> write(PUT_OBJECT, namedObject());
        }
    }

    private void phrase(int locals) {
        int n = oneIn(2) ? 0 : below(4);
        int[] liked = LIKED[mood];
        switch (liked.length > 0 && oneIn(2) ? liked[below(liked.length)] : below(24)) {
            case 0, 1 -> value(locals);
            case 2 -> write(BYTE, below(256), BYTE, below(4) - 1, PLUS + below(5));
            case 3 -> write(oneIn(9) ? AGAIN : BYTE, 2, oneIn(9) ? LIKE : SAY);
            case 4, 5 -> {
                for (int i = 0; i < n; i++) {
                    write(PUT_NIL + below(2));
                }
                target();
                write(ASK, n, n + 4 * below(2));
            }
            case 6, 7 -> {
                for (int i = 0; i < n; i++) {
                    write(PUT_NIL + below(2));
                }
                write(INHERITED, n, n + 4 * below(2));
            }
            case 8 -> {
                for (int i = 0; i < n; i++) {
                    write(BYTE, i);
                }
                int address = methodFor(n) + (oneIn(30) ? below(5) : 0);
                write(CALL, n, address >> 8, address);
            }
            case 9, 10 -> {
                value(locals);
                target();
                write(SET, below(8));
            }
            case 11 -> {
                int address = methodFor(below(4));
                write(PUT_METHOD, address >> 8, address, PUT_OBJECT, namedObject(), SET, address / SLOT & 3);
            }
            case 12 -> {
                if (oneIn(2)) {
                    target();
                    write(THROW);
                }
            }
            case 13 -> write(BYTE, 7, BYTE, below(2), OVER);
            case 14 -> write(POINT);
            case 15 -> write(UNDO, oneIn(2) ? SAY : DROP);
            case 16 -> write(oneIn(2) ? SAVE : LOAD, oneIn(30) ? below(4) : below(2));
            case 17 -> {
                if (locals > 0) {
                    value(locals);
                    write(INTO, below(locals));
                }
            }
            case 18 -> {
                value(locals);
                write(UNLESS, below(6));
            }
            case 19 -> write(JUMP, oneIn(4) ? below(12) - 8 : below(3));
            case 20 -> {
                value(locals);
                write(oneIn(3) ? NOT : SAY);
            }
            case 21 -> {
                value(locals);
                write(TEST_OF, namedObject());
            }
            case 22 -> write(MAKE, namedObject(), oneIn(2) ? DROP : SAY);
            case 24 -> {
                // A made object with a METHOD of its own, and perhaps a child of it that is asked.
                int address = methodFor(0);
                int k = below(Math.max(1, locals));
                write(MAKE, namedObject(), INTO, k, PUT_METHOD, address >> 8, address, LOCAL, k, SET, 4);
                write(oneIn(2) ? MAKE : PUT_OBJECT, 16 + below(3), ASK, 0, 4);
            }
            default -> {
                if (oneIn(6)) {
                    write(below(40));
                }
            }
        }
    }
}
