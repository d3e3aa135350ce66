import java.util.Arrays;

/** Terms: how many arguments, locals and handlers a method has, and where it stands when it is called. */
final class MethodBoundsTest implements Instructions {
    /** The instructions that call; begin calls too. */
    private static final int[] WAYS = {CALL, ASK, INHERITED};

    public static void main(String[] args) {
        heads();
        otherArguments();
        tooMany();
        upToTheBeginning();
        begun();
        addresses();
        appendedLater();
        Check.end();
    }

    private static int[] head(int arguments, int locals, int handlers) {
        return Tale.join(Tale.bytes(arguments, locals, handlers), new int[4 * Math.min(handlers, 4)]);
    }

    /** A story whose next instruction calls, in one of the ways and with n arguments, the method that ends the code. */
    private static Story calling(int way, int n, int... method) {
        int[] call = way == ASK ? Tale.bytes(PUT_OBJECT, 2, ASK, n, 1)
                : way == INHERITED ? Tale.bytes(NOTHING, NOTHING, INHERITED, n, 1)
                : Tale.bytes(NOTHING, CALL, n, 0, 30);
        int[] caller = Tale.join(Tale.bytes(0, 1, 0, BYTE, 99), Tale.times(n, PUT_TRUE), call);
        int before = 1 + n + (way == INHERITED ? 2 : 1);
        // INHERITED finds it behind object 2, whose own value the caller is, and ASK along object 2's line.
        return Story.with("way " + way + ", n " + n + ", " + Arrays.toString(method), Arrays.copyOf(caller, 30)).write(method)
                .then(Call.property(0, 1, METHOD, 30), Call.property(2, 7, METHOD, 0),
                        Call.begin(2, 7), Call.run(before));
    }

    private static String frame(TaleMachine m) {
        return (m.show(0) + " at " + m.show(1) + " self " + m.show(2) + " stack " + Tale.stack(m)).stripTrailing();
    }

    /** "how many ARGUMENTS (0 .. 3), how many further LOCALS (0 .. 3), how many HANDLERS (0 .. 3)": all of these. */
    private static void heads() {
        for (int way : WAYS) {
            for (int i = 0; i < 64; i++) {
                int arguments = i & 3;
                int locals = i >> 2 & 3;
                int handlers = i >> 4;
                Story story = calling(way, arguments, head(arguments, locals, handlers));
                String due = "2 at " + (33 + 4 * handlers) + " self " + (way == CALL ? -1 : 2) + " stack 0:0 2:99"
                        + " 1:1".repeat(arguments) + " 0:0".repeat(locals);
                Check.same(story.name(), frame(Twins.done(story, 0)), due);
            }
        }
    }

    /** "the method must have as many arguments": neither fewer nor more. */
    private static void otherArguments() {
        for (int way : WAYS) {
            for (int n = 0; n <= 3; n++) {
                for (int has = 0; has <= 4; has++) {
                    if (has != n) {
                        Twins.fault(calling(way, n, head(has, 0, 0)));
                    }
                }
                Twins.fault(calling(way, n, head(n + 256 - 4, 0, 0)));
                Twins.fault(calling(way, n, head(255, 0, 0)));
            }
        }
    }

    /** Four of anything is no method, nor are 255 (which is no -1). */
    private static void tooMany() {
        for (int way : WAYS) {
            Twins.fault(calling(way, 4, head(4, 0, 0)));
            for (int n = 0; n <= 3; n++) {
                for (int many : new int[] {4, 5, 127, 128, 255}) {
                    Twins.fault(calling(way, n, head(n, many, 0)));
                    Twins.fault(calling(way, n, Tale.join(head(n, 0, many), new int[40])));
                }
            }
        }
        for (int n : new int[] {5, 127, 128, 255}) {
            for (int way : WAYS) {
                Twins.fault(named(way, n));
            }
        }
    }

    /** The instruction names n, with so much on the stack that it could be taken, or as much as there can be. */
    private static Story named(int way, int n) {
        int[] call = way == CALL ? Tale.bytes(CALL, n, 0, 60) : Tale.bytes(way, n, 1);
        int[] caller = Tale.join(Tale.bytes(0, 0, 0), Tale.times(39, PUT_NIL), Tale.bytes(PUT_OBJECT, 2), call);
        return Story.with("way " + way + ", n " + n, Arrays.copyOf(caller, 60)).write(n, 0, 0, END_NIL)
                .then(Call.property(0, 1, METHOD, 60), Call.property(2, 7, METHOD, 0), Call.begin(2, 7), Call.run(40));
    }

    /** "and stand in the code up to its beginning": with the last byte of its handlers missing it does not. */
    private static void upToTheBeginning() {
        for (int way : WAYS) {
            for (int handlers = 0; handlers <= 3; handlers++) {
                int[] whole = head(0, 0, handlers);
                Story story = calling(way, 0, whole);
                Check.same("its frame stands behind the code", Twins.done(story, 0).show(1), 30 + whole.length);
                Twins.fault(story.then(Call.run(1)).named(story.name() + ", first instruction"));
                for (int there = 0; there < whole.length; there++) {
                    Twins.fault(calling(way, 0, Arrays.copyOf(whole, there)));
                }
            }
        }
    }

    private static Story toBegin(int... method) {
        return Story.with(Arrays.toString(method)).write(new int[10]).write(method).then(Call.property(1, 3, METHOD, 10));
    }

    /** begin: "or this cannot be called", that is without arguments, SELF being the object. */
    private static void begun() {
        for (int handlers = 0; handlers <= 3; handlers++) {
            for (int locals = 0; locals <= 3; locals++) {
                int[] whole = head(0, locals, handlers);
                TaleMachine m = toBegin(whole).machine();
                m.begin(2, 3);
                Check.same("begun", frame(m), "1 at " + (13 + 4 * handlers) + " self 2 stack" + " 0:0".repeat(locals));
                for (int there = 0; there < whole.length; there++) {
                    Twins.unchanged(toBegin(Arrays.copyOf(whole, there)), Call.begin(2, 3), "IllegalArgumentException");
                }
            }
        }
        for (int wrong : new int[] {4, 5, 127, 128, 255}) {
            Twins.unchanged(toBegin(Tale.join(head(0, wrong, 0), new int[60])), Call.begin(2, 3), "IllegalArgumentException");
            Twins.unchanged(toBegin(Tale.join(head(0, 0, wrong), new int[60])), Call.begin(2, 3), "IllegalArgumentException");
            Twins.unchanged(toBegin(Tale.join(head(wrong, 0, 0), new int[60])), Call.begin(2, 3), "IllegalArgumentException");
        }
        for (int arguments = 1; arguments <= 3; arguments++) {
            Twins.unchanged(toBegin(arguments, 0, 0, END_NIL), Call.begin(2, 3), "IllegalArgumentException");
        }
    }

    /** 300 bytes of code, all 0 but for a caller of the method at an address; the caller's own address is 0. */
    private static Story calledAt(int address) {
        return Story.begun("method at " + address,
                Arrays.copyOf(Tale.bytes(0, 0, 0, CALL, 0, address >> 8, address), 300));
    }

    private static Story askedAt(int address) {
        return Story.begun("asked, method at " + address, Arrays.copyOf(Tale.bytes(0, 0, 0,
                PUT_METHOD, address >> 8, address, PUT_OBJECT, 1, SET, 1, PUT_OBJECT, 2, ASK, 0, 1), 300)).then(Call.run(4));
    }

    /** Methods at addresses of one and of two bytes, up to the last that can be; none at 298 and beyond. */
    private static void addresses() {
        for (int address : new int[] {0, 127, 128, 254, 255, 256, 257, 296, 297}) {
            Check.same("called at " + address, Twins.done(calledAt(address), 0).show(1), address + 3);
            Check.same("asked at " + address, Twins.done(askedAt(address), 0).show(1), address + 3);
        }
        for (int address : new int[] {298, 299, 300, 301, 32767, 32768, 65533, 65534, 65535}) {
            Twins.fault(calledAt(address));
            Twins.fault(askedAt(address));
        }
    }

    /** What cannot be called while its last byte is missing can be called when that has been appended. */
    private static void appendedLater() {
        TaleMachine m = toBegin(0, 0).machine();
        Check.same("two bytes", Call.begin(2, 3).on(m), "IllegalArgumentException");
        m.code(0, 1);
        Check.same("three", Call.begin(2, 3).on(m), "done");
        Story cut = calling(CALL, 0, 0, 0, 1, 0, 0, 0);
        Twins.fault(cut);
        Check.same("appended under way", Twins.done(cut.write(0), 0).show(1), 37);
    }
}
