import java.util.Arrays;
import java.util.NoSuchElementException;

/**
 * Promise 6 and the paragraph "A FAULT": the run is over (3), and the instruction has done nothing. Here are kinds of
 * values, n where nothing is called, objects that are not there, SELF and FOUND, and what may well be done with an
 * OBJECT that is not there. The other cases stand with their limits: no instruction, places and bytes outside
 * (CodeBoundsTest), properties, objects and free numbers (ObjectBoundsTest), locals and frames (FrameBoundsTest),
 * methods and n (MethodBoundsTest), what is taken and the stack (StackBoundsTest), s and a 51st value said
 * (HistoryBoundsTest).
 */
final class FaultTest implements Instructions {
    public static void main(String[] args) {
        kindsOfNumbers();
        kindsOfObjects();
        nWhereNothingIsCalled();
        notThereWhereAskedFor();
        notThereWhereNot();
        selfAndFound();
        foundOutsideOfTheLine();
        noSelf();
        theNextOneOfItsNumber();
        whatStays();
        Check.end();
    }

    private static final int[][] PUTS = {
        {PUT_NIL}, {PUT_TRUE}, {BYTE, 1}, {PUT_OBJECT, 1}, {PUT_METHOD, 0, 1}};

    /** "kind of a value that is not as said": 12 to 16 want two NUMBERS. */
    private static void kindsOfNumbers() {
        for (int operation = PLUS; operation <= LESS; operation++) {
            for (int first = NIL; first <= METHOD; first++) {
                for (int second = NIL; second <= METHOD; second++) {
                    Story story = Story.begun(operation + " of the kinds " + first + " and " + second, Tale.join(
                            Tale.bytes(0, 0, 0), PUTS[first], PUTS[second], Tale.bytes(operation))).then(Call.run(2));
                    if (first == NUMBER && second == NUMBER) {
                        Twins.done(story, 0);
                    } else {
                        Twins.fault(story);
                    }
                }
            }
        }
        for (int first = NIL; first <= METHOD; first++) {
            if (first != NUMBER) {
                Twins.fault(Story.begun("OVER 0 of the kind " + first, Tale.join(
                        Tale.bytes(0, 0, 0), PUTS[first], Tale.bytes(BYTE, 0, OVER))).then(Call.run(2)));
            }
        }
    }

    /** 21, 22 and 27 want an OBJECT on top. */
    private static void kindsOfObjects() {
        int[][] asking = {{ASK, 0, 3}, {SET, 3}, {THROW}};
        for (int[] one : asking) {
            for (int kind = NIL; kind <= METHOD; kind++) {
                Story story = Story.begun(one[0] + " with the kind " + kind, Tale.join(
                        Tale.bytes(0, 0, 0, PUT_OBJECT, 1), PUTS[kind], one)).then(Call.run(2));
                if (kind == OBJECT) {
                    Twins.done(story, one[0] == THROW ? 2 : 0);
                } else {
                    Twins.fault(story);
                }
            }
        }
    }

    /** "otherwise n must be 0, and what it has is put (NIL, if nothing)": for 21 and for 23. */
    private static void nWhereNothingIsCalled() {
        String[] due = {"0:0", "0:0", "1:1", "2:7", "3:1"};
        for (int kind = -1; kind <= OBJECT; kind++) {
            for (int n : new int[] {0, 1, 2, 3, 4, 255}) {
                int[] puts = Tale.times(4, PUT_TRUE);
                int value = kind == OBJECT ? 1 : 7;
                Story ask = Story.with("21, n " + n + ", of the kind " + kind, Tale.join(
                        Tale.bytes(0, 0, 0), puts, Tale.bytes(PUT_OBJECT, 2, ASK, n, 1)))
                        .then(Call.property(0, 1, kind, value), Call.property(2, 7, METHOD, 0), Call.begin(2, 7), Call.run(5));
                Story inherited = Story.with("23, n " + n + ", of the kind " + kind, Tale.join(
                        Tale.bytes(0, 0, 0), puts, Tale.bytes(INHERITED, n, 1)))
                        .then(Call.property(0, 1, kind, value), Call.property(2, 7, METHOD, 0), Call.begin(2, 7), Call.run(4));
                if (n == 0) {
                    Check.same(ask.name(), Tale.stack(Twins.done(ask, 0)), "1:1 1:1 1:1 1:1 " + due[kind + 1]);
                    Check.same(inherited.name(), Tale.stack(Twins.done(inherited, 0)), "1:1 1:1 1:1 1:1 " + due[kind + 1]);
                } else {
                    Twins.fault(ask);
                    Twins.fault(inherited);
                }
            }
        }
    }

    /** OBJECT 16, which is not there any more, lies on the stack; what is written next is done next. */
    private static Story gone(String name, int... next) {
        return Story.begun(name, Tale.join(Tale.bytes(0, 1, 0, POINT, MAKE, 0, UNDO, DROP), next)).then(Call.run(4));
    }

    /** "an object (named, taken where an OBJECT is asked for, .. thrown) that is not there". */
    private static void notThereWhereAskedFor() {
        Twins.fault(gone("5", PUT_OBJECT, 16));
        Twins.fault(gone("28", MAKE, 16));
        Twins.fault(gone("29", TEST_OF, 16));
        Twins.fault(gone("21", ASK, 0, 0));
        Twins.fault(gone("21 with an argument", PUT_NIL, LOCAL, 0, ASK, 1, 0).then(Call.run(2)));
        Twins.fault(gone("22", INTO, 0, PUT_NIL, LOCAL, 0, SET, 0).then(Call.run(3)));
        Twins.fault(gone("27", THROW));
        // The same with 17 there, so that only the number decides.
        Twins.fault(Story.begun("16 of two", 0, 1, 0, MAKE, 0, DROP, MAKE, 0, INTO, 0, NOTHING, PUT_OBJECT, 16)
                .then(Call.run(4), Call.collect(), Call.run(1)));
        Twins.done(Story.begun("17 of two", 0, 1, 0, MAKE, 0, DROP, MAKE, 0, INTO, 0, NOTHING, PUT_OBJECT, 17)
                .then(Call.run(4), Call.collect(), Call.run(1)), 0);
    }

    /** "Anywhere an OBJECT may stand that is not there": no other instruction asks. */
    private static void notThereWhereNot() {
        Check.same("7 and 8", Tale.stack(Twins.done(gone("into and out", INTO, 0, LOCAL, 0).then(Call.run(1)), 0)), "3:16 3:16");
        Check.same("10", Tale.stack(Twins.done(gone("again", AGAIN), 0)), "0:0 3:16 3:16");
        Check.same("11", Tale.stack(Twins.done(gone("dropped", DROP), 0)), "0:0");
        Check.same("17", Tale.stack(Twins.done(gone("like", AGAIN, LIKE).then(Call.run(1)), 0)), "0:0 1:1");
        Check.same("18", Tale.stack(Twins.done(gone("not", NOT), 0)), "0:0 0:0");
        Check.same("20", Twins.done(gone("if FALSE", UNLESS, 5), 0).show(1), 10);
        Check.same("29", Tale.stack(Twins.done(gone("is of", TEST_OF, 0), 0)), "0:0 0:0");
        TaleMachine own = Twins.done(gone("its own value", PUT_OBJECT, 1, SET, 4).then(Call.run(1)), 0);
        Check.same("22", Portrait.had(own, 2, 4), "3:16@1");
        TaleMachine asked = Twins.done(gone("asked", PUT_OBJECT, 1, SET, 4, PUT_OBJECT, 2, ASK, 0, 4).then(Call.run(3)), 0);
        Check.same("21 puts it", Tale.stack(asked), "0:0 3:16");
        TaleMachine argument = Twins.done(gone("argument", CALL, 1, 0, 13, 0, 1, 0, 0, END_NIL), 0);
        Check.same("24", Tale.stack(argument) + " in " + argument.show(0), "0:0 3:16 in 2");
        TaleMachine said = Twins.done(gone("said", SAY), 0);
        Check.same("30", said.said(0, 0) + ":" + said.said(0, 1), "3:16");
        TaleMachine ended = Twins.done(gone("ended", END), 1);
        Check.same("25", ended.said(-1, 0) + ":" + ended.said(-1, 1), "3:16");
        Check.same("has", Portrait.had(gone("has", PUT_OBJECT, 1, SET, 4).then(Call.run(2)).machine(), 1, 4), "3:16@1");
    }

    /**
     * A run in which SELF is 17 and FOUND 16, made of 1 and of 16; both are undone then, and as many
     * objects of 0 are made again. What is written next is done next.
     */
    private static Story undoneAndMade(String name, int again, int... next) {
        int[] caller = {0, 0, 0, POINT, MAKE, 1, DROP, MAKE, 16, DROP,
            PUT_METHOD, 0, 30, PUT_OBJECT, 16, SET, 1, PUT_OBJECT, 17, ASK, 0, 1};
        return Story.begun(name, Tale.join(Arrays.copyOf(caller, 30), Tale.bytes(0, 0, 0, UNDO, DROP),
                Tale.times(again, MAKE, 0, DROP), next)).then(Call.run(10 + 2 + 2 * again));
    }

    /** 23: "both SELF and FOUND must be there". */
    private static void selfAndFound() {
        Story neither = undoneAndMade("neither is there", 0, INHERITED, 0, 1);
        Check.same("SELF", neither.machine().show(2) + " of " + neither.machine().show(4), "17 of 3");
        Twins.fault(neither);
        Story found = undoneAndMade("FOUND is there, SELF is not", 1, INHERITED, 0, 1);
        Check.same("16", found.machine().isOf(16, 0) + " " + found.machine().isOf(17, 0), "true false");
        Twins.fault(found);
        Twins.done(undoneAndMade("both are there", 2, INHERITED, 0, 1), 0);
        selfWithoutFound();
        // 9 puts SELF "there or not".
        for (int again = 0; again <= 2; again++) {
            Check.same("SELF", Tale.stack(Twins.done(undoneAndMade("9 with " + again, again, SELF), 0)), "3:17");
        }
    }

    /** Here 16 is made of 17, for another 16 has gone by collecting: SELF is 16, FOUND 17. */
    private static void selfWithoutFound() {
        int[] caller = {0, 1, 0, POINT, MAKE, 0, DROP, MAKE, 0, INTO, 0, MAKE, 17, DROP,
            PUT_METHOD, 0, 30, PUT_OBJECT, 17, SET, 0, PUT_OBJECT, 16, ASK, 0, 0};
        Story story = Story.begun("SELF is there, FOUND is not", Tale.join(Arrays.copyOf(caller, 30),
                Tale.bytes(0, 0, 0, UNDO, DROP, MAKE, 1, DROP, INHERITED, 0, 0)))
                .then(Call.run(5), Call.collect(), Call.run(11));
        TaleMachine m = story.machine();
        Check.same("SELF", m.show(2) + " " + m.isOf(16, 1) + " " + m.isOf(17, 17), "16 true false");
        Twins.fault(story);
    }

    /** "if FOUND does not stand in SELF's line, SELF has nothing": NIL for n 0, whatever its line has; else a fault. */
    private static void foundOutsideOfTheLine() {
        int[] give = {BYTE, 4, PUT_OBJECT, 0, SET, 1, BYTE, 5, PUT_OBJECT, 17, SET, 1};
        Story put = undoneAndMade("nothing behind it", 2, Tale.join(give, Tale.bytes(INHERITED, 0, 1))).then(Call.run(6));
        Check.same("SELF has it", Portrait.had(put.machine(), 17, 1), "2:5@17");
        Check.same("but nothing behind FOUND", Tale.stack(Twins.done(put, 0)), "0:0");
        int[] method = {PUT_METHOD, 0, 30, PUT_OBJECT, 0, SET, 1};
        Story called = undoneAndMade("no method behind it", 2, Tale.join(method, Tale.bytes(INHERITED, 0, 1))).then(Call.run(3));
        TaleMachine m = Twins.done(called, 0);
        Check.same("is not called", Tale.stack(m) + " in " + m.show(0), "0:0 in 2");
        Twins.fault(undoneAndMade("n 1", 2, PUT_NIL, INHERITED, 1, 1).then(Call.run(1)));
    }

    /** A frame without SELF: 9 puts NIL, 23 is a fault, whatever objects there are. */
    private static void noSelf() {
        Story story = Story.begun("no SELF", 0, 0, 0, CALL, 0, 0, 8, 0, 0, 0, 0).then(Call.run(1));
        Check.same("SELF", story.machine().show(2), -1);
        Check.same("NIL", Tale.stack(Twins.done(story.write(SELF).named("9 without SELF"), 0)), "0:0");
        Twins.fault(story.write(INHERITED, 0, 7).named("23 without SELF"));
        Twins.fault(story.write(INHERITED, 0, 0).named("23 without SELF, for nothing"));
    }

    /** "if its number is taken again, it is that one": on the stack, as an own value, as SELF. */
    private static void theNextOneOfItsNumber() {
        TaleMachine m = gone("again", MAKE, 1, DROP, AGAIN, TEST_OF, 1, DROP, ASK, 0, 5).then(Call.run(5)).machine();
        Check.same("OBJECT 16 on the stack is of 1 now", m.isOf(16, 1) + " " + Tale.stack(m), "true 0:0 3:16");
        Check.same("it can be asked", m.run(1) + " " + Tale.stack(m), "0 0:0 0:0");
        Story own = gone("own value", PUT_OBJECT, 1, SET, 4, MAKE, 2, DROP, BYTE, 3, PUT_OBJECT, 1, ASK, 0, 4, SET, 5)
                .then(Call.run(7));
        Check.same("its own value", Portrait.had(Twins.done(own, 0), 16, 5), "2:3@16");
        Story self = undoneAndMade("SELF", 2, BYTE, 9, SELF, SET, 3).then(Call.run(2));
        Check.same("SELF is the next 17", Portrait.had(Twins.done(self, 0), 17, 3), "2:9@17");
    }

    /** "frames stay as they are", what was said stays, and there is no result; only the points go. */
    private static void whatStays() {
        TaleMachine m = Tale.begun(0, 0, 0, POINT, MAKE, 1, SAY, BYTE, 3, CALL, 1, 0, 13, 1, 1, 0, POINT, DROP);
        m.run(6);
        Check.same("points before", m.show(3), 2);
        Check.same("fault", m.run(1), 3);
        Check.same("points go", m.show(3), 0);
        Check.same("frames stay", m.show(0) + " " + m.show(1) + " " + m.show(2) + " " + Tale.stack(m), "2 17 -1 2:3 0:0");
        Check.same("what was said stays", m.said(0, 1), 16);
        Check.fails("no result", NoSuchElementException.class, () -> m.said(-1, 0));
    }
}
