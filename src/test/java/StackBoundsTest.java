import java.util.Arrays;

/** Terms: at most 40 values on the stack, and what of them can be taken. */
final class StackBoundsTest implements Instructions {
    public static void main(String[] args) {
        putting();
        callsThatNeedRoom();
        endsThatNeedRoom();
        undoingWithoutRoom();
        takingInTheFirstFrame();
        takingWithLocals();
        takingWithArguments();
        takingWithAFrameBelow();
        argumentsOfCalls();
        Check.end();
    }

    private static int height(TaleMachine m) {
        String stack = Tale.stack(m);
        return stack.isEmpty() ? 0 : stack.split(" ").length;
    }

    /** A story with so many values on the stack, the uppermost being those that the sample needs; it is next. */
    private static Story at(int height, Sample sample) {
        int fill = height - 1 - sample.needs();
        return Story.begun("instruction " + sample.instruction() + " with " + height + " values", Tale.join(
                Tale.bytes(0, 1, 0), Tale.times(fill, PUT_TRUE), sample.puts(sample.needs()), sample.bytes()))
                .then(Call.run(height - 1));
    }

    /** "THE STACK holds at most 40 values"; "a stack .. that would be too high": each instruction at 38, 39 and 40. */
    private static void putting() {
        for (Sample sample : Sample.ALL) {
            for (int height = 38; height <= 40; height++) {
                Story story = at(height, sample);
                Check.same(story.name(), height(story.machine()), height);
                if (height + sample.growth() > 40) {
                    Twins.fault(story);
                } else {
                    TaleMachine m = Twins.done(story, sample.due());
                    Check.same(story.name() + ": then", height(m), sample.due() == 0 ? height + sample.growth() : 0);
                }
            }
        }
    }

    /** Before a call with n arguments there are so many values, those and an OBJECT to be asked among them. */
    private static Story calling(int instruction, int height, int n, int locals) {
        boolean asks = instruction == ASK;
        int[] call = instruction == CALL ? Tale.bytes(CALL, n, 0, 70) : Tale.bytes(instruction, n, 1);
        int[] caller = Tale.join(Tale.bytes(0, 0, 0), Tale.times(asks ? height - 1 : height, PUT_TRUE),
                asks ? Tale.bytes(PUT_OBJECT, 2) : Tale.bytes(), call);
        return Story.with(instruction + " of " + locals + " locals with " + height + " values, " + n + " arguments")
                .write(Arrays.copyOf(caller, 70)).write(n, locals, 0, END_NIL)
                .then(Call.property(0, 1, METHOD, 70), Call.property(2, 7, METHOD, 0), Call.begin(2, 7), Call.run(height));
    }

    /** Arguments are there already, locals are not; the OBJECT that is asked makes room for one. */
    private static void callsThatNeedRoom() {
        for (int instruction : new int[] {CALL, ASK, INHERITED}) {
            for (int n = 0; n <= 3; n++) {
                for (int locals = 0; locals <= 3; locals++) {
                    for (int height = 36; height <= 40; height++) {
                        int then = height + locals - (instruction == ASK ? 1 : 0);
                        Story story = calling(instruction, height, n, locals);
                        if (then > 40) {
                            Twins.fault(story);
                        } else {
                            Check.same(story.name(), height(Twins.done(story, 0)), then);
                        }
                    }
                }
            }
        }
    }

    /** A frame without values of its own may lie on 40 values: then what it ends with has no room. */
    private static void endsThatNeedRoom() {
        for (int height = 38; height <= 40; height++) {
            Story story = calling(CALL, height, 0, 0).then(Call.run(1)).named("ends on " + height);
            if (height == 40) {
                Twins.fault(story);
            } else {
                TaleMachine m = Twins.done(story, 0);
                Check.same("one more", height(m) + " in " + m.show(0), (height + 1) + " in 1");
            }
        }
        for (int n = 1; n <= 3; n++) {
            Story story = calling(CALL, 40, n, 0).then(Call.run(1)).named("ends with " + n + " arguments below 40");
            Check.same(story.name(), height(Twins.done(story, 0)), 41 - n);
        }
        Check.same("the last frame's value needs no room", Tale.told(Tale.join(
                Tale.bytes(0, 0, 0), Tale.times(40, PUT_TRUE), Tale.bytes(END_NIL))), "1 said result 0:0");
    }

    /** 32 and 34 put a value: on a full stack nothing is undone or brought back. */
    private static void undoingWithoutRoom() {
        int[][] ways = {{POINT, UNDO}, {SAVE, 0, LOAD, 0}, {SAVE, 1, LOAD, 1}};
        for (int[] way : ways) {
            int half = way.length / 2;
            for (int height = 39; height <= 40; height++) {
                Story story = Story.begun("instruction " + way[half] + " with something to bring back, on " + height, Tale.join(
                        Tale.bytes(0, 0, 0), Arrays.copyOf(way, half), Tale.bytes(MAKE, 1, PUT_OBJECT, 0, SET, 3),
                        Tale.times(height, PUT_TRUE), Arrays.copyOfRange(way, half, way.length)))
                        .then(Call.run(4 + height));
                if (height == 40) {
                    Twins.fault(story);
                    TaleMachine m = story.then(Call.run(1)).machine();
                    Check.same("16 is still there", m.show(4) + " " + Portrait.had(m, 0, 3), "4 3:16@0");
                } else {
                    TaleMachine m = Twins.done(story, 0);
                    Check.same("16 is gone", m.show(4) + " " + Portrait.had(m, 0, 3), "3 -");
                }
            }
        }
    }

    /** "nothing there to be taken": with each number of values below what is needed, and with just that. */
    private static void taking(String where, Sample sample, Story before) {
        for (int there = 0; there <= sample.needs(); there++) {
            Story story = before.write(sample.puts(there)).write(sample.bytes()).then(Call.run(there))
                    .named("instruction " + sample.instruction() + " with " + there + " values " + where);
            if (there < sample.needs()) {
                Twins.fault(story);
            } else {
                boolean ends = sample.due() == 1 && before.machine().show(0) == 2;
                Twins.done(story, ends ? 0 : sample.due());
            }
        }
    }

    private static void takingInTheFirstFrame() {
        for (Sample sample : Sample.ALL) {
            taking("in the first frame", sample, Story.begun("", 0, 1, 0));
        }
    }

    /** The locals hold just what could be taken otherwise. */
    private static void takingWithLocals() {
        for (Sample sample : Sample.ALL) {
            int n = Math.max(1, sample.needs());
            int[] fill = Tale.bytes();
            for (int k = 0; k < sample.needs(); k++) {
                fill = Tale.join(fill, sample.before()[k], Tale.bytes(INTO, k));
            }
            taking("above locals", sample, Story.begun("", Tale.join(Tale.bytes(0, n, 0), fill))
                    .then(Call.run(2 * sample.needs())));
        }
    }

    /** The arguments are just what could be taken otherwise; SELF is 2, so that INHERITED can be done. */
    private static void takingWithArguments() {
        for (Sample sample : Sample.ALL) {
            int n = sample.needs();
            int[] caller = Tale.join(Tale.bytes(0, 1, 0), sample.puts(n), Tale.bytes(SELF, ASK, n, 5));
            taking("above arguments", sample, Story.with("").write(Arrays.copyOf(caller, 20)).write(n, 1, 0)
                    .then(Call.property(2, 5, METHOD, 20), Call.property(2, 7, METHOD, 0),
                            Call.begin(2, 7), Call.run(n + 2)));
        }
    }

    /** "only what instructions of the frame have put can be taken": the frame below has put just what is needed. */
    private static void takingWithAFrameBelow() {
        for (Sample sample : Sample.ALL) {
            int n = sample.needs();
            boolean hasLocal = sample.instruction() == LOCAL || sample.instruction() == INTO;
            int[] caller = Tale.join(Tale.bytes(0, 1, 0), sample.puts(n), Tale.bytes(SELF, ASK, 0, 5));
            taking("above a frame's values", sample, Story.with("").write(Arrays.copyOf(caller, 20))
                    .write(0, hasLocal ? 1 : 0, 0)
                    .then(Call.property(2, 5, METHOD, 20), Call.property(2, 7, METHOD, 0),
                            Call.begin(2, 7), Call.run(n + 2)));
        }
    }

    /** n arguments for 21, 23 and 24 (and the OBJECT for 21) must have been put by the frame, not be its locals. */
    private static void argumentsOfCalls() {
        for (int instruction : new int[] {CALL, ASK, INHERITED}) {
            for (int n = 0; n <= 3; n++) {
                int needs = instruction == ASK ? n + 1 : n;
                int[] call = instruction == CALL ? Tale.bytes(CALL, n, 0, 40) : Tale.bytes(instruction, n, 1);
                // Every value is OBJECT 2, which can be asked: the locals too.
                int[] fill = Tale.join(Tale.bytes(PUT_OBJECT, 2, INTO, 0), Tale.bytes(PUT_OBJECT, 2, INTO, 1),
                        Tale.bytes(PUT_OBJECT, 2, INTO, 2));
                for (int there = 0; there <= needs; there++) {
                    int[] caller = Tale.join(Tale.bytes(0, 3, 0), fill, Tale.times(there, PUT_OBJECT, 2), call);
                    Story story = Story.with(instruction + " of " + n + " arguments with " + there + " values")
                            .write(Arrays.copyOf(caller, 40)).write(n, 0, 0, END_NIL)
                            .then(Call.property(0, 1, METHOD, 40), Call.property(2, 7, METHOD, 0),
                                    Call.begin(2, 7), Call.run(6 + there));
                    if (there < needs) {
                        Twins.fault(story);
                    } else {
                        TaleMachine m = Twins.done(story, 0);
                        Check.same(story.name(), m.show(0) + " with " + height(m), "2 with " + (3 + n));
                    }
                }
            }
        }
    }
}
