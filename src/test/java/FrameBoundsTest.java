import java.util.Arrays;

/** Terms: at most 8 frames, the locals of each, and what is left when a frame ends. */
final class FrameBoundsTest implements Instructions {
    public static void main(String[] args) {
        eightByAddress();
        eightByAsking();
        eightByInheriting();
        roomAgain();
        locals();
        noSuchLocals();
        ends();
        theLastEnds();
        Check.end();
    }

    /** "A FRAME (at most 8)"; "frames that would be too high": the eighth is there, a ninth is a fault. */
    private static void eight(Story story, int instructionsForOne) {
        for (int frames = 1; frames < 8; frames++) {
            Story next = story.then(Call.run(frames * instructionsForOne - 1)).named(story.name() + " " + frames);
            Check.same(next.name(), next.machine().show(0), frames);
            Check.same(next.name() + " and one", Twins.done(next, 0).show(0), frames + 1);
        }
        Story full = story.then(Call.run(8 * instructionsForOne - 1)).named(story.name() + ": a ninth frame");
        Check.same("eight", full.machine().show(0), 8);
        Twins.fault(full);
    }

    private static void eightByAddress() {
        eight(Story.begun("24", 0, 1, 0, CALL, 0, 0, 0), 1);
    }

    private static void eightByAsking() {
        eight(Story.begun("21", 0, 0, 0, SELF, ASK, 0, 7), 2);
    }

    /** Ten objects in a line, each with the method as its own: only the frames are too many. */
    private static void eightByInheriting() {
        Story story = Story.of("23").write(0, 0, 0, INHERITED, 0, 7);
        for (int o = 0; o < 10; o++) {
            story = story.then(Call.object(o - 1, -1, -1), Call.property(o, 7, METHOD, 0));
        }
        eight(story.then(Call.begin(9, 7)), 1);
    }

    /** Calls itself twice, each with its argument less one, down to 0. */
    private static final int[] TWICE = {1, 0, 0, LOCAL, 0, UNLESS, 19,
        LOCAL, 0, BYTE, 1, MINUS, CALL, 1, 0, 20, DROP, LOCAL, 0, BYTE, 1, MINUS, CALL, 1, 0, 20, END_NIL};

    /** Frames that have ended leave room: many calls, but never more than eight frames. */
    private static void roomAgain() {
        for (int depth = 5; depth <= 7; depth++) {
            int[] caller = Arrays.copyOf(Tale.bytes(0, 0, 0, BYTE, depth, CALL, 1, 0, 20, END), 20);
            TaleMachine m = Tale.begun(Tale.join(caller, TWICE));
            Check.same("down to " + depth, m.run(3000), depth < 7 ? 1 : 3);
            Check.same("frames", m.show(0), depth < 7 ? 0 : 8);
        }
    }

    /** A frame with so many arguments (10, 11, ..) and locals, and 77 and 78 put by the frames. */
    private static Story called(int arguments, int locals, int... body) {
        int[] caller = Tale.bytes(0, 0, 0, BYTE, 77);
        for (int i = 0; i < arguments; i++) {
            caller = Tale.join(caller, Tale.bytes(BYTE, 10 + i));
        }
        caller = Tale.join(caller, Tale.bytes(CALL, arguments, 0, 30));
        return Story.begun(arguments + " arguments, " + locals + " locals, " + Arrays.toString(body), Tale.join(
                Arrays.copyOf(caller, 30), Tale.bytes(arguments, locals, 0, BYTE, 78), body))
                .then(Call.run(arguments + 3));
    }

    private static String expected(int arguments, int locals, String more) {
        StringBuilder text = new StringBuilder("2:77");
        for (int i = 0; i < arguments; i++) {
            text.append(" 2:").append(10 + i);
        }
        return text.append(" 0:0".repeat(locals)).append(" 2:78").append(more).toString();
    }

    /** "k a local, counted from 0 with the arguments first": each that there is, out (7) and in (8). */
    private static void locals() {
        for (int arguments = 0; arguments <= 3; arguments++) {
            for (int locals = 0; locals <= 3; locals++) {
                for (int k = 0; k < arguments + locals; k++) {
                    Story out = called(arguments, locals, LOCAL, k);
                    String value = k < arguments ? " 2:" + (10 + k) : " 0:0";
                    Check.same(out.name(), Tale.stack(Twins.done(out, 0)), expected(arguments, locals, value));
                    Story in = called(arguments, locals, INTO, k);
                    String[] due = expected(arguments, locals, "").split(" ");
                    due[1 + k] = "2:78";
                    Check.same(in.name(), Tale.stack(Twins.done(in, 0)),
                            String.join(" ", Arrays.copyOf(due, due.length - 1)));
                }
            }
        }
    }

    /** "a .. local .. that is not as said": the first that there is not, and far ones. */
    private static void noSuchLocals() {
        for (int arguments = 0; arguments <= 3; arguments++) {
            for (int locals = 0; locals <= 3; locals++) {
                int first = arguments + locals;
                for (int k : new int[] {first, first + 1, 6, 7, 39, 40, 127, 128, 254, 255}) {
                    if (k >= first) {
                        Twins.fault(called(arguments, locals, LOCAL, k));
                        Twins.fault(called(arguments, locals, INTO, k));
                    }
                }
            }
        }
    }

    /** "it goes with its values, and its value is put for the frame below, which goes on behind its instruction". */
    private static void ends() {
        for (int arguments = 0; arguments <= 3; arguments++) {
            for (int locals = 0; locals <= 3; locals++) {
                int behind = 5 + 2 * arguments + 4;
                TaleMachine with = Twins.done(called(arguments, locals, END), 0);
                Check.same("25", Tale.stack(with) + " at " + with.show(1) + " in " + with.show(0),
                        "2:77 2:78 at " + behind + " in 1");
                TaleMachine nil = Twins.done(called(arguments, locals, END_NIL), 0);
                Check.same("26", Tale.stack(nil) + " at " + nil.show(1) + " in " + nil.show(0),
                        "2:77 0:0 at " + behind + " in 1");
            }
        }
        TaleMachine asked = Twins.done(Story.begun("asked", 0, 0, 0, SELF, ASK, 0, 1, NOTHING, 0, 0, 0, END_NIL)
                .then(Call.stop(), Call.property(0, 1, METHOD, 8), Call.begin(2, 7), Call.run(2)), 0);
        Check.same("behind the three bytes of 21", asked.show(1) + " " + Tale.stack(asked), "7 0:0");
        TaleMachine inherited = Twins.done(Story.begun("inherited", 0, 0, 0, INHERITED, 0, 7, NOTHING, 0, 0, 0, END_NIL)
                .then(Call.stop(), Call.property(0, 7, METHOD, 7), Call.begin(2, 7), Call.run(1)), 0);
        Check.same("behind the three bytes of 23", inherited.show(1) + " " + Tale.stack(inherited), "6 0:0");
    }

    /** "the last frame's value is the RESULT, and the run is over (1)": no frame, no values, whatever there was. */
    private static void theLastEnds() {
        Story story = Story.begun("the last", 0, 3, 0, PUT_TRUE, BYTE, 9, END).then(Call.run(2));
        TaleMachine m = Twins.done(story, 1);
        Check.same("result", m.said(-1, 0) + ":" + m.said(-1, 1), "2:9");
        Check.same("frames and values", m.show(0) + " " + Tale.stack(m), "0 ");
        TaleMachine nil = Twins.done(Story.begun("the last with NIL", 0, 3, 0, BYTE, 9, END_NIL).then(Call.run(1)), 1);
        Check.same("result", nil.said(-1, 0) + ":" + nil.said(-1, 1), "0:0");
        Check.same("frames and values", nil.show(0) + " " + Tale.stack(nil), "0 ");
    }
}
