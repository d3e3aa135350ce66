import java.util.Arrays;

/** Terms: THROWING: FROM up to TO, which handler counts, its object, GOAL, and the frames that go. */
final class HandlerBoundsTest implements Instructions {
    public static void main(String[] args) {
        fromUpToInTheFrameOnTop();
        fromUpToInAFrameBelow();
        zeroToThree();
        theFirstThatFits();
        goals();
        argumentsAndLocalsAlone();
        objects();
        madeObjects();
        theInnermost();
        framesGo();
        uncaught();
        whatCannotBeThrown();
        Check.end();
    }

    private static final int GOAL = 1;

    /** Throws at a place counted from the beginning, in a method with one handler of object 0. */
    private static Story throwing(int place, int from, int to) {
        int[] body = Arrays.copyOf(Tale.bytes(), place - 2);
        return Story.begun("thrown at " + place + ", handler " + from + " .. " + to, Tale.join(
                Tale.bytes(0, 1, 1, from, to, 0, GOAL), body, Tale.bytes(PUT_OBJECT, 2, THROW)))
                .then(Call.run(place - 1));
    }

    /** Calls at a place what throws OBJECT 2, which is done next. */
    private static Story calling(int place, int from, int to) {
        int callee = 7 + place + 4;
        int[] body = Arrays.copyOf(Tale.bytes(), place);
        return Story.begun("called at " + place + ", handler " + from + " .. " + to, Tale.join(
                Tale.bytes(0, 1, 1, from, to, 0, GOAL), body, Tale.bytes(CALL, 0, callee >> 8, callee),
                Tale.bytes(0, 2, 0, PUT_OBJECT, 2, THROW)))
                .then(Call.run(place + 2));
    }

    private static void caught(Story story, boolean due) {
        TaleMachine m = Twins.done(story, due ? 0 : 2);
        if (due) {
            Check.same(story.name(), m.show(0) + " at " + m.show(1) + " " + Tale.stack(m), "1 at " + (7 + GOAL) + " 0:0 3:2");
        } else {
            Check.same(story.name(), m.show(0) + " result " + m.said(-1, 0) + ":" + m.said(-1, 1), "0 result 3:2");
        }
    }

    private interface Thrown {
        Story with(int place, int from, int to);
    }

    /** "with FROM up to TO (both counted) around the place of the running instruction (its first byte)". */
    private static void around(Thrown thrown, int place) {
        int[] edges = {0, 1, place - 2, place - 1, place, place + 1, place + 2, place + 3, place + 4, 254, 255};
        for (int from : edges) {
            for (int to : edges) {
                if (from >= 0 && from <= 255 && to >= 0 && to <= 255) {
                    caught(thrown.with(place, from, to), from <= place && place <= to);
                }
            }
        }
    }

    private static void fromUpToInTheFrameOnTop() {
        for (int place : new int[] {2, 3, 126, 127, 128, 129, 254, 255, 256, 257}) {
            around(HandlerBoundsTest::throwing, place);
        }
    }

    private static void fromUpToInAFrameBelow() {
        for (int place : new int[] {0, 1, 2, 127, 128, 254, 255, 256, 257}) {
            around(HandlerBoundsTest::calling, place);
        }
    }

    /** A method with handlers that go on at 10, 20 and 30; a 1 in the text is one that fits, a 0 one that does not. */
    private static Story handling(String fits, int[] fitting, int[] other) {
        int[] head = {0, 0, fits.length()};
        for (int i = 0; i < fits.length(); i++) {
            head = Tale.join(head, fits.charAt(i) == '1' ? fitting : other, Tale.bytes(10 * (i + 1)));
        }
        return Story.begun("handlers " + fits + " " + Arrays.toString(other), Tale.join(head, Tale.bytes(PUT_OBJECT, 1, THROW)))
                .then(Call.run(1));
    }

    private static final String[] FITS = {"", "0", "1", "00", "01", "10", "11",
        "000", "001", "010", "011", "100", "101", "110", "111"};

    /** "how many HANDLERS (0 .. 3)": each of them counts. */
    private static void zeroToThree() {
        for (String fits : FITS) {
            Story story = handling(fits, Tale.bytes(2, 2, 1), Tale.bytes(2, 2, 2));
            int first = fits.indexOf('1');
            TaleMachine m = Twins.done(story, first >= 0 ? 0 : 2);
            if (first >= 0) {
                Check.same(story.name(), m.show(1), 3 + 4 * fits.length() + 10 * (first + 1));
            }
        }
    }

    /** "the first handler counts": where the others do not fit by their place, or by an object that is not there. */
    private static void theFirstThatFits() {
        int[][] others = {{3, 255, 1}, {0, 1, 1}, {2, 1, 1}, {3, 2, 1}, {2, 2, 3}, {0, 255, 16}, {0, 255, 32}, {0, 255, 255}};
        for (int[] other : others) {
            for (String fits : FITS) {
                Story story = handling(fits, Tale.bytes(0, 255, 0), other);
                int first = fits.indexOf('1');
                TaleMachine m = Twins.done(story, first >= 0 ? 0 : 2);
                if (first >= 0) {
                    Check.same(story.name(), m.show(1), 3 + 4 * fits.length() + 10 * (first + 1));
                }
            }
        }
    }

    /** "it goes on at GOAL", a byte counted from the beginning: 0 .. 255; outside of the code the next is a fault. */
    private static void goals() {
        for (int goal = 0; goal <= 255; goal++) {
            int[] code = Arrays.copyOf(Tale.bytes(0, 0, 1, 2, 2, 0, goal, PUT_OBJECT, 1, THROW), 280);
            Story story = Story.begun("GOAL " + goal, code).then(Call.run(1));
            TaleMachine m = Twins.done(story, 0);
            Check.same(story.name(), m.show(1) + " " + Tale.stack(m), (7 + goal) + " 3:1");
            Check.same("and on", m.run(1), 0);
        }
        for (int goal : new int[] {12, 13, 14, 255}) {
            int[] code = Arrays.copyOf(Tale.bytes(0, 0, 1, 2, 2, 0, goal, PUT_OBJECT, 1, THROW), 20);
            Story story = Story.begun("GOAL " + goal + " with 20 bytes", code).then(Call.run(1));
            Check.same(story.name(), Twins.done(story, 0).show(1), 7 + goal);
            if (7 + goal < 20) {
                Twins.done(story.then(Call.run(1)), 0);
            } else {
                Twins.fault(story.then(Call.run(1)));
            }
        }
    }

    /** A callee with a handler up to a place, which puts four values and throws at its place 10. */
    private static Story withValues(int arguments, int locals, int to) {
        int[] caller = Tale.join(Tale.bytes(0, 0, 0, BYTE, 77), Tale.times(arguments, BYTE, 10),
                Tale.bytes(CALL, arguments, 0, 30));
        return Story.begun(arguments + " arguments, " + locals + " locals, up to " + to, Tale.join(Arrays.copyOf(caller, 30),
                Tale.bytes(arguments, locals, 1, 0, to, 0, 1), Tale.times(4, BYTE, 5), Tale.bytes(PUT_OBJECT, 1, THROW)))
                .then(Call.run(arguments + 7));
    }

    /** "the frame has its arguments and locals alone, the object is put". */
    private static void argumentsAndLocalsAlone() {
        for (int arguments = 0; arguments <= 3; arguments++) {
            for (int locals = 0; locals <= 3; locals++) {
                Story story = withValues(arguments, locals, 10);
                Check.same(story.name(), Tale.stack(Twins.done(story, 0)),
                        "2:77" + " 2:10".repeat(arguments) + " 0:0".repeat(locals) + " 3:1");
                Check.same("nobody's", Tale.stack(Twins.done(withValues(arguments, locals, 9), 2)), "");
            }
        }
    }

    private static Story thrown(int made, int thrown, int handler) {
        return Story.of("OBJECT " + thrown + ", handler of " + handler)
                .then(Call.object(-1, -1, -1), Call.object(0, -1, -1), Call.object(1, -1, -1), Call.object(-1, -1, -1))
                .write(Tale.join(Tale.bytes(0, 0, 1, 0, 255, handler, 1), Tale.times(made, MAKE, 2, DROP),
                        Tale.bytes(PUT_OBJECT, thrown, THROW)))
                .then(Call.property(3, 0, METHOD, 0), Call.begin(3, 0), Call.run(2 * made + 1));
    }

    /** "and with an object of which the thrown one is"; "a handler's object need not [be there]". */
    private static void objects() {
        String[] of = {"0", "0 1", "0 1 2", "3"};
        for (int thrown = 0; thrown <= 3; thrown++) {
            for (int handler : new int[] {0, 1, 2, 3, 4, 15, 16, 31, 32, 127, 128, 254, 255}) {
                boolean fits = Arrays.asList(of[thrown].split(" ")).contains("" + handler);
                Story story = thrown(0, thrown, handler);
                TaleMachine m = Twins.done(story, fits ? 0 : 2);
                Check.same(story.name(), fits ? Tale.stack(m) : m.said(-1, 0) + ":" + m.said(-1, 1), "3:" + thrown);
            }
        }
    }

    private static void madeObjects() {
        for (int handler : new int[] {0, 1, 2, 3, 16, 17, 18, 31}) {
            boolean fits = handler <= 2 || handler == 17;
            Twins.done(thrown(2, 17, handler).named("the made 17, handler of " + handler), fits ? 0 : 2);
        }
        for (int last : new int[] {30, 31}) {
            Twins.done(thrown(last - 15, last, last), 0);
            Twins.done(thrown(last - 15, last, last - 1), 2);
        }
    }

    /** Three frames, each with a handler that fits or without one: "of the frame on top", then "the one below". */
    private static void theInnermost() {
        for (int handlers = 0; handlers < 8; handlers++) {
            int[] code = {};
            for (int i = 0; i < 3; i++) {
                int[] head = (handlers >> i & 1) == 1 ? Tale.bytes(0, i, 1, 0, 255, 0, 5 + i) : Tale.bytes(0, i, 0);
                int[] body = i < 2 ? Tale.bytes(BYTE, 60 + i, CALL, 0, 0, 30 * (i + 1)) : Tale.bytes(PUT_OBJECT, 1, THROW);
                code = Tale.join(code, Arrays.copyOf(Tale.join(head, body), 30));
            }
            Story story = Story.begun("handlers in the frames " + Integer.toBinaryString(handlers), code).then(Call.run(5));
            Check.same("frames", story.machine().show(0), 3);
            TaleMachine m = Twins.done(story, handlers == 0 ? 2 : 0);
            int innermost = 31 - Integer.numberOfLeadingZeros(handlers);
            Check.same(story.name(), m.show(0), innermost + 1);
            if (handlers != 0) {
                String[] stacks = {"3:1", "2:60 0:0 3:1", "2:60 0:0 2:61 0:0 0:0 3:1"};
                Check.same(story.name(), m.show(1) + " " + Tale.stack(m),
                        (30 * innermost + 7 + 5 + innermost) + " " + stacks[innermost]);
            }
        }
    }

    /** "If there is none the frame goes, and it is the same for the one below, at its running instruction". */
    private static void framesGo() {
        // The callee counts its argument down and then throws; its own handler is around neither CALL nor THROW.
        for (int depth = 1; depth <= 7; depth++) {
            int[] caller = {0, 1, 1, 2, 2, 0, 8, BYTE, depth, CALL, 1, 0, 30, END_NIL, 0, NOTHING, END};
            int[] callee = {1, 1, 1, 8, 8, 0, 0, BYTE, 66, LOCAL, 0, BYTE, 1, MINUS, AGAIN, UNLESS, 4,
                CALL, 1, 0, 30, PUT_OBJECT, 1, THROW};
            Story story = Story.begun("through " + depth + " frames", Tale.join(Arrays.copyOf(caller, 30), callee));
            TaleMachine m = story.machine();
            int steps = 0;
            while (m.run(0) == 0 && !(m.show(0) == 1 && m.show(1) == 15) && steps < 200) {
                m.run(1);
                steps++;
                Check.yes("frames", m.show(0) <= depth + 1);
            }
            Check.same(story.name(), m.show(0) + " at " + m.show(1) + " " + Tale.stack(m), "1 at 15 0:0 3:1");
            Check.same(story.name() + ": the end", Tale.rest(m), "1 said result 3:1");
        }
    }

    /** "If there is no frame left, the object is the result, and the run is over (2, UNCAUGHT)", from any depth. */
    private static void uncaught() {
        for (int depth = 0; depth <= 7; depth++) {
            int[] code = {1, 1, 0, BYTE, 66, LOCAL, 0, UNLESS, 10, LOCAL, 0, BYTE, 1, MINUS, CALL, 1, 0, 0, END,
                PUT_OBJECT, 1, THROW, 0, 0, 0, BYTE, depth, PUT_NIL, SAY, CALL, 1, 0, 0, END};
            TaleMachine m = Tale.with(code);
            m.property(0, 0, METHOD, 22);
            m.begin(0, 0);
            Check.same("from " + depth, Tale.rest(m), depth < 7 ? "2 said 0:0 result 3:1" : "3 said 0:0 at 14");
            Check.same("frames", m.show(0), depth < 7 ? 0 : 8);
            Check.same("values", Tale.stack(m).isEmpty(), depth < 7);
        }
    }

    /** 27: "takes an OBJECT and throws it": no other kind, and none that is not there; handlers do not help. */
    private static void whatCannotBeThrown() {
        int[][] puts = {{PUT_NIL}, {PUT_TRUE}, {BYTE, 0}, {BYTE, 1}, {PUT_METHOD, 0, 0}, {PUT_METHOD, 0, 1}};
        for (int[] put : puts) {
            Twins.fault(Story.begun("thrown " + Arrays.toString(put), Tale.join(
                    Tale.bytes(0, 0, 1, 0, 255, 0, 0), put, Tale.bytes(THROW))).then(Call.run(1)));
        }
        Twins.fault(Story.begun("one that is not there", 0, 0, 2, 0, 255, 0, 0, 0, 255, 16, 0, POINT, MAKE, 0, UNDO, DROP, THROW)
                .then(Call.run(4)));
        Twins.fault(Story.begun("one that is not there, in a frame above a handler", 0, 0, 1, 0, 255, 0, 0,
                POINT, MAKE, 0, UNDO, DROP, CALL, 1, 0, 16, 1, 0, 0, LOCAL, 0, THROW).then(Call.run(6)));
    }
}
