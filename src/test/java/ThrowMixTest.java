import java.util.Arrays;
import java.util.List;

/**
 * Runs that mix the sentences: exceptions thrown through several frames, with what they leave and what they take along.
 * The objects are 0; 1 and 2 of 0; 3 of 1 and 2; 4.
 */
final class ThrowMixTest implements Instructions {
    public static void main(String[] args) {
        throughEachKindOfCall();
        ofSeveralParents();
        overNothingFarAbove();
        whatIsDoneStaysDone();
        pointsOfFramesThatWent();
        thrownOneUndone();
        savedOnTheWay();
        thrownAgain();
        aroundItself();
        roomForFramesAgain();
        roomForValuesAgain();
        uncaughtOne();
        handlersObjectMadeAnew();
        collectedBeforeTheHandler();
        selfAndFoundOfTheCatchingFrame();
        faultBehindAHandler();
        calledByAHandler();
        Check.end();
    }

    private static Story kin(String name) {
        return Story.of(name).then(Call.object(-1, -1, -1), Call.object(0, -1, -1), Call.object(0, -1, -1),
                Call.object(1, 2, -1), Call.object(-1, -1, -1));
    }

    private static Story begun(String name, Book book, int address) {
        return kin(name).write(book.code()).then(Call.property(4, 7, METHOD, address), Call.begin(4, 7));
    }

    private static String shown(TaleMachine m) {
        return m.show(0) + " at " + m.show(1) + " self " + m.show(2) + " | " + Tale.stack(m);
    }

    private static final int[][] NONE = {};

    /** Around everything; on to a GOAL. */
    private static int[][] all(int object, int goal) {
        return new int[][] {{0, 255, object, goal}};
    }

    /** Four frames: begun, asked (21), inherited (23), called (24); the one with the handler is where it goes on. */
    private static void throughEachKindOfCall() {
        String[] due = {"1 at %d self 4 | 2:1 0:0 3:3", "2 at %d self 3 | 2:1 0:0 2:2 2:3 2:11 3:3",
            "3 at %d self 3 | 2:1 0:0 2:2 2:3 2:11 2:12 3:3", "4 at %d self -1 | 2:1 0:0 2:2 2:3 2:11 2:12 2:20 3:3 2:30 3:3"};
        for (int handler = -1; handler < 4; handler++) {
            int[][][] handlers = new int[4][][];
            for (int i = 0; i < 4; i++) {
                handlers[i] = i == handler ? all(2, 40 + i) : NONE;
            }
            Book book = new Book();
            int[] at = new int[4];
            at[3] = book.handling(1, 1, handlers[3], BYTE, 30, INTO, 1, BYTE, 31, LOCAL, 0, THROW);
            at[2] = book.handling(0, 0, handlers[2], BYTE, 20, PUT_OBJECT, 3, CALL, 1, 0, at[3], END);
            at[1] = book.handling(0, 1, handlers[1], BYTE, 11, INTO, 0, BYTE, 12, INHERITED, 0, 1, END);
            at[0] = book.handling(0, 2, handlers[0], BYTE, 1, INTO, 0, BYTE, 2, BYTE, 3, PUT_OBJECT, 3, ASK, 0, 1, END);
            Story story = begun("handler in frame " + handler, book, at[0])
                    .then(Call.stop(), Call.property(1, 1, METHOD, at[1]), Call.property(0, 1, METHOD, at[2]),
                            Call.begin(4, 7), Call.run(6 + 4 + 3 + 4));
            Check.same("before", story.machine().show(0) + " | " + Tale.stack(story.machine()),
                    "4 | 2:1 0:0 2:2 2:3 2:11 2:12 2:20 3:3 2:30 2:31 3:3");
            TaleMachine m = Twins.done(story, handler < 0 ? 2 : 0);
            Check.same(story.name(), handler < 0 ? m.show(0) + Tale.stack(m) + m.said(-1, 1) : shown(m),
                    handler < 0 ? "03" : String.format(due[handler], at[handler] + 3 + 4 + 40 + handler));
        }
    }

    /** 17 is thrown, of 16, of 3: with the handler of one object in the frame on top, of another in the one below. */
    private static void ofSeveralParents() {
        List<Integer> line = Arrays.asList(17, 16, 3, 1, 2, 0);
        int[] objects = {0, 1, 2, 3, 4, 16, 17, 18};
        for (int inner : objects) {
            for (int outer : objects) {
                Book book = new Book();
                int throwing = book.handling(0, 0, all(inner, 7), MAKE, 3, DROP, MAKE, 16, THROW, NOTHING, SAY, BYTE, 1, END);
                int begun = book.handling(0, 0, all(outer, 5), CALL, 0, 0, throwing, END, SAY, BYTE, 2, END);
                String due = line.contains(inner) ? "1 said 3:17 result 2:1"
                        : line.contains(outer) ? "1 said 3:17 result 2:2" : "2 said result 3:17";
                Check.same("handlers of " + inner + " and of " + outer,
                        Tale.rest(begun("", book, begun).machine()), due);
            }
        }
    }

    /** OVER 0 in the third frame throws OBJECT 0: a handler of 1 or 2 does not count, though they are of 0. */
    private static void overNothingFarAbove() {
        for (int object = 0; object <= 4; object++) {
            Book book = new Book();
            int over = book.method(2, 0, LOCAL, 0, LOCAL, 1, OVER, END);
            int between = book.handling(0, 0, all(object, 9), BYTE, 8, BYTE, 0, CALL, 2, 0, over, END, SAY, BYTE, 5, END);
            int begun = book.handling(0, 0, all(0, 5), CALL, 0, 0, between, END, SAY, BYTE, 6, END);
            Check.same("handler of " + object, Tale.rest(begun("", book, begun).machine()),
                    "1 said 3:0 result 2:" + (object == 0 ? 5 : 6));
        }
        Book book = new Book();
        int over = book.method(2, 0, LOCAL, 0, LOCAL, 1, OVER, END);
        int begun = book.handling(0, 0, all(0, 9), BYTE, 8, BYTE, 4, CALL, 2, 0, over, END, SAY, BYTE, 5, END);
        Check.same("nothing is thrown by another", Tale.rest(begun("", book, begun).machine()), "1 said result 2:2");
    }

    /** Objects that were changed and made, and what was said in frames that go, is not taken back. */
    private static void whatIsDoneStaysDone() {
        Book book = new Book();
        int throwing = book.method(0, 0, Tale.join(Book.give(2, 0, 9), Tale.bytes(BYTE, 7, SAY, MAKE, 1, PUT_OBJECT, 2, SET, 1,
                PUT_OBJECT, 3, THROW)));
        int between = book.method(0, 1, Tale.join(Book.give(2, 5, 5), Tale.bytes(CALL, 0, 0, throwing, END)));
        int begun = book.handling(0, 1, all(1, 5), CALL, 0, 0, between, END, INTO, 0, LOCAL, 0, END);
        TaleMachine m = begun("done", book, begun).machine();
        Check.same("the end", Tale.rest(m), "1 said 2:7 result 3:3");
        Check.same("what 3 has", Portrait.had(m, 3, 0) + " " + Portrait.had(m, 3, 1) + " " + Portrait.had(m, 3, 5),
                "2:9@2 3:16@2 2:5@2");
        Check.same("16", m.isOf(16, 1) + " " + m.collect(), "true 0");
    }

    /** A point set in a frame that goes stays set: the handler undoes to it, and then to the one of its own frame. */
    private static void pointsOfFramesThatWent() {
        Book book = new Book();
        int throwing = book.method(0, 0, Tale.join(Tale.bytes(POINT), Book.give(1, 0, 3), Tale.bytes(MAKE, 3, THROW)));
        int between = book.method(0, 0, Tale.join(Tale.bytes(POINT), Book.give(1, 0, 2), Tale.bytes(CALL, 0, 0, throwing, END)));
        int begun = book.handling(0, 0, all(2, 12), Tale.join(Tale.bytes(POINT), Book.give(1, 0, 1),
                Tale.bytes(CALL, 0, 0, between, END, SAY), Tale.times(4, UNDO, SAY), Tale.bytes(END_NIL)));
        TaleMachine m = begun("points", book, begun).then(Call.run(5 + 5 + 6)).machine();
        Check.same("caught", m.show(0) + " points " + m.show(3) + " " + Tale.stack(m), "1 points 3 3:16");
        Check.same("as it was changed", Portrait.had(m, 3, 0) + " " + m.isOf(16, 3), "2:3@1 true");
        m.run(2);
        Check.same("undone to the third frame's", Portrait.had(m, 3, 0) + " " + m.isOf(16, 3) + " " + m.show(3), "2:2@1 false 2");
        m.run(2);
        Check.same("undone to the second's", Portrait.had(m, 3, 0) + " " + m.show(3), "2:1@1 1");
        m.run(2);
        Check.same("undone to the first's", Portrait.had(m, 3, 0) + " " + m.show(3), "- 0");
        Check.same("the end", Tale.rest(m), "1 said 3:16 1:1 1:1 1:1 0:0 result 0:0");
    }

    /** The handler undoes the making of what was thrown: that can still be said, but not be thrown again. */
    private static void thrownOneUndone() {
        Book book = new Book();
        int throwing = book.method(0, 1, MAKE, 3, AGAIN, INTO, 0, THROW);
        int begun = book.handling(0, 0, all(0, 6), POINT, CALL, 0, 0, throwing, END, UNDO, DROP, AGAIN, SAY, THROW);
        TaleMachine m = begun("undone", book, begun).machine();
        Check.same("a fault", Tale.rest(m), "3 said 3:16 at " + (begun + 7 + 10));
        Check.same("the frame stays", shown(m), "1 at " + (begun + 17) + " self 4 | 3:16");
        Check.same("it is not there", m.isOf(16, 16) + " " + m.collect() + " " + m.show(4), "false 0 5");
        Book again = new Book();
        int other = again.method(0, 0, MAKE, 3, THROW);
        begun = again.handling(0, 0, all(0, 6), POINT, CALL, 0, 0, other, END, UNDO, DROP, MAKE, 4, DROP, THROW);
        TaleMachine made = begun("its number taken again", again, begun).machine();
        Check.same("it is that one, which no handler's object is in the line of", Tale.rest(made), "2 said result 3:16");
        Check.same("of 4", made.isOf(16, 4) + " " + made.isOf(16, 3), "true false");
    }

    /** What is saved in a frame that goes is brought back by the handler, and all points go by that. */
    private static void savedOnTheWay() {
        Book book = new Book();
        int throwing = book.method(0, 0, Tale.join(Book.give(0, 0, 1), Tale.bytes(SAVE, 1), Book.give(0, 0, 2),
                Tale.bytes(POINT, PUT_OBJECT, 3, THROW)));
        int begun = book.handling(0, 0, all(3, 6), POINT, CALL, 0, 0, throwing, END, SAY, LOAD, 1, SAY, LOAD, 0, SAY, UNDO, END);
        TaleMachine m = begun("saved", book, begun).then(Call.run(12)).machine();
        Check.same("caught", Portrait.had(m, 3, 0) + " points " + m.show(3), "2:2@0 points 2");
        m.run(2);
        Check.same("brought back", Portrait.had(m, 3, 0) + " points " + m.show(3), "2:1@0 points 0");
        Check.same("the end", Tale.rest(m), "1 said 3:3 1:1 0:0 result 0:0");
    }

    /** Each handler says what it has caught and throws something else: the innermost around it in the frames below. */
    private static void thrownAgain() {
        Book book = new Book();
        int[][] inside = {{0, 3, 0, 4}};
        int third = book.handling(0, 1, inside, PUT_OBJECT, 1, THROW, NOTHING, SAY, PUT_OBJECT, 2, THROW);
        int second = book.handling(0, 0, new int[][] {{0, 0, 1, 5}, {0, 0, 2, 5}, {5, 5, 0, 0}},
                CALL, 0, 0, third, END, SAY, MAKE, 3, THROW);
        int first = book.handling(0, 0, new int[][] {{0, 1, 0, 0}, {2, 2, 16, 7}, {2, 2, 0, 8}},
                BYTE, 9, CALL, 0, 0, second, END, NOTHING, SAY, BYTE, 0, BYTE, 0, OVER, END);
        TaleMachine m = begun("again", book, first).machine();
        Check.same("1, then 2, then 16, then 0 uncaught", Tale.rest(m), "2 said 3:1 3:2 3:16 result 3:0");
        Check.same("no frame is left", m.show(0) + Tale.stack(m), "0");
    }

    /** A handler that goes on within itself catches what it throws for ever: the run goes on. */
    private static void aroundItself() {
        Book book = new Book();
        int throwing = book.method(1, 0, LOCAL, 0, THROW);
        int begun = book.handling(0, 0, all(1, 2), PUT_OBJECT, 3, CALL, 1, 0, throwing);
        TaleMachine m = begun("around itself", book, begun).then(Call.run(1)).machine();
        for (int round = 0; round < 5; round++) {
            Check.same("called, put and thrown", m.run(3) + " " + shown(m), "0 1 at " + (begun + 9) + " self 4 | 3:3");
        }
        Check.same("much more", m.run(3000) + " " + shown(m), "0 1 at " + (begun + 9) + " self 4 | 3:3");
        Check.same("within it", m.run(1) + " " + m.show(0), "0 2");
        Check.yes("stopped", m.stop());
        Check.same("frames stay", m.show(0) + " " + Tale.stack(m), "2 3:3");
    }

    /** Eight frames, thrown down to the lowest, ten times: frames that went leave room for others. */
    private static void roomForFramesAgain() {
        Book book = new Book();
        int deeper = book.method(1, 0, LOCAL, 0, UNLESS, 10, LOCAL, 0, BYTE, 1, MINUS, CALL, 1, 0, 0, END, PUT_OBJECT, 3, THROW);
        int begun = book.handling(0, 1, new int[][] {{6, 6, 0, 10}}, BYTE, 0, INTO, 0, BYTE, 6, CALL, 1, 0, deeper,
                DROP, LOCAL, 0, BYTE, 1, PLUS, INTO, 0, LOCAL, 0, SAY, LOCAL, 0, BYTE, 10, LESS, NOT, UNLESS, -25, END_NIL);
        TaleMachine m = begun("room for frames", book, begun).machine();
        int deepest = 0;
        for (int i = 0; i < 60; i++) {
            m.run(1);
            deepest = Math.max(deepest, m.show(0));
        }
        Check.same("eight frames", deepest, 8);
        Check.same("ten times", Tale.rest(m), "1 said 2:1 2:2 2:3 2:4 2:5 2:6 2:7 2:8 2:9 2:10 result 0:0");
        // One frame more is a fault in the ninth, and nothing is thrown.
        Book more = new Book();
        more.method(1, 0, LOCAL, 0, UNLESS, 10, LOCAL, 0, BYTE, 1, MINUS, CALL, 1, 0, 0, END, PUT_OBJECT, 3, THROW);
        int other = more.handling(0, 0, all(0, 6), BYTE, 7, CALL, 1, 0, 0, END_NIL);
        TaleMachine fault = begun("a ninth frame", more, other).machine();
        Check.same("a ninth", fault.run(3000) + " " + fault.show(0), "3 8");
    }

    /** 40 values in three frames; caught, the lowest has its local and the object, and can put 38 again. */
    private static void roomForValuesAgain() {
        Book book = new Book();
        int third = book.method(2, 1, Tale.join(Tale.times(9, PUT_TRUE), Tale.bytes(PUT_OBJECT, 2, THROW)));
        int second = book.method(0, 3, Tale.join(Tale.times(10, PUT_TRUE), Tale.bytes(CALL, 2, 0, third)));
        int begun = book.handling(0, 1, all(2, 30), Arrays.copyOf(Tale.join(Tale.times(15, PUT_TRUE),
                Tale.bytes(CALL, 0, 0, second)), 31));
        Story story = begun("room for values", book, begun).write(Tale.times(39, PUT_NIL)).then(Call.run(15 + 1 + 10 + 1 + 10));
        Check.same("before", story.machine().show(0) + " " + Tale.stack(story.machine()).split(" ").length, "3 40");
        TaleMachine m = Twins.done(story, 0);
        Check.same("caught", shown(m), "1 at " + (begun + 7 + 30) + " self 4 | 0:0 3:2");
        Check.same("39 instructions on", m.run(39) + " " + Tale.stack(m).split(" ").length, "0 40");
        Check.same("the 41st value", m.run(1) + " " + Tale.stack(m).split(" ").length, "3 40");
    }

    /** Uncaught from the third frame: the result leads to its parents and values, and nothing else that was made stays. */
    private static void uncaughtOne() {
        Book book = new Book();
        int third = book.method(1, 0, SAVE, 0, POINT, LOCAL, 0, THROW);
        int second = book.method(0, 1, MAKE, 3, DROP, MAKE, 17, INTO, 0, MAKE, 0, LOCAL, 0, SET, 2, MAKE, 1,
                LOCAL, 0, CALL, 1, 0, third, END);
        int begun = book.handling(0, 0, all(4, 0), POINT, BYTE, 5, SAY, MAKE, 4, CALL, 0, 0, second, END);
        int loads = book.method(0, 0, LOAD, 0, END);
        TaleMachine m = begun("uncaught", book, begun).then(Call.run(5 + 9)).machine();
        Check.same("before", m.show(0) + " objects " + m.show(4) + " points " + m.show(3) + " " + Tale.stack(m),
                "2 objects 10 points 1 3:16 3:18 3:20 3:18");
        Check.same("uncaught", Tale.rest(m), "2 said 2:5 result 3:18");
        Check.same("what has gone", m.show(0) + " points " + m.show(3) + " stack " + Tale.stack(m), "0 points 0 stack ");
        Check.same("16, of 4, and 20 go", m.collect() + " " + m.isOf(16, 16) + m.isOf(20, 20), "2 falsefalse");
        Check.same("18, its parent and its value stay", m.isOf(18, 17) + " " + Portrait.had(m, 18, 2) + " " + m.isOf(19, 0),
                "true 3:19@18 true");
        Check.same("as it was over", m.run(9) + " " + m.stop(), "2 false");
        m.property(4, 6, METHOD, loads);
        m.begin(4, 6);
        Check.same("no result, no OBJECTS", m.collect() + " " + m.show(4), "3 5");
        Check.same("what was saved on the way", Tale.rest(m) + " objects " + m.show(4), "1 said result 1:1 objects 10");
    }

    /** Handlers of 16 and of 3: they catch 17 when it is of 16, and when another 17 is of 3 beside another 16. */
    private static void handlersObjectMadeAnew() {
        Book book = new Book();
        int throwing = book.method(0, 0, PUT_OBJECT, 17, THROW);
        int first = book.handling(0, 1, new int[][] {{8, 8, 16, 13}, {8, 8, 3, 14}},
                MAKE, 1, DROP, MAKE, 16, INTO, 0, NOTHING, CALL, 0, 0, throwing, END, NOTHING, END);
        int second = book.handling(0, 2, new int[][] {{8, 255, 16, 13}, {8, 255, 3, 14}},
                MAKE, 4, INTO, 0, MAKE, 3, INTO, 1, CALL, 0, 0, throwing, END, SAY, SAY, PUT_OBJECT, 16, THROW);
        TaleMachine m = begun("handlers of 16 and of 3", book, first).machine();
        m.run(8);
        Check.same("17 is of 16", shown(m), "1 at " + (first + 11 + 13) + " self 4 | 3:17 3:17");
        Check.same("the end", Tale.rest(m), "1 said result 3:17");
        m.property(4, 7, METHOD, second);
        m.begin(4, 7);
        Check.same("both go", m.collect() + " " + m.isOf(17, 16), "2 false");
        m.run(7);
        Check.same("17 is of 3, and not of 16", shown(m), "1 at " + (second + 11 + 14) + " self 4 | 3:16 3:17 3:17");
        m.run(3);
        Check.same("16 is of itself", shown(m), "1 at " + (second + 11 + 13) + " self 4 | 3:16 3:17 3:16");
    }

    /** Caught, the values of the frames above lead to nothing any more; the thrown object on the stack does. */
    private static void collectedBeforeTheHandler() {
        Book book = new Book();
        int throwing = book.method(1, 1, MAKE, 2, INTO, 1, MAKE, 3, MAKE, 17, THROW);
        int begun = book.handling(0, 1, all(3, 10), MAKE, 0, INTO, 0, MAKE, 1, CALL, 1, 0, throwing, INTO, 0, NOTHING, END_NIL);
        TaleMachine m = begun("collected", book, begun).then(Call.run(4 + 4)).machine();
        Check.same("before: all can be come to", m.show(4) + " " + m.collect() + " " + Tale.stack(m),
                "10 0 3:16 3:17 3:18 3:19 3:20");
        Check.same("20 is of 17, not of 3: uncaught", Tale.rest(m), "2 said result 3:20");
        Book caught = new Book();
        throwing = caught.method(1, 1, MAKE, 2, INTO, 1, MAKE, 17, MAKE, 3, THROW);
        begun = caught.handling(0, 1, all(3, 10), MAKE, 0, INTO, 0, MAKE, 1, CALL, 1, 0, throwing, INTO, 0, NOTHING, END_NIL);
        TaleMachine n = begun("collected", caught, begun).then(Call.run(4 + 5)).machine();
        Check.same("caught", shown(n), "1 at " + (begun + 17) + " self 4 | 3:16 3:20");
        Check.same("17, 18 and 19 go", n.collect() + " " + n.isOf(16, 0) + n.isOf(17, 17) + n.isOf(18, 18) + n.isOf(19, 19)
                + n.isOf(20, 3), "3 truefalsefalsefalsetrue");
        n.run(1);
        Check.same("16 was in the local", n.collect() + " " + Tale.stack(n), "1 3:20");
        Check.same("20 is of nobody's then", Tale.rest(n) + " " + n.collect() + " " + n.show(4), "1 said result 0:0 1 5");
    }

    /** The frame that goes on has its SELF and FOUND: it can go on behind FOUND along SELF's line. */
    private static void selfAndFoundOfTheCatchingFrame() {
        Book book = new Book();
        int throwing = book.method(0, 0, SELF, THROW);
        int called = book.handling(0, 0, all(1, 7), PUT_OBJECT, 1, ASK, 0, 2, END, NOTHING, SAY, SELF, SAY, INHERITED, 0, 1, END);
        int begun = book.method(0, 0, PUT_OBJECT, 3, ASK, 0, 1, END);
        Story story = kin("SELF and FOUND").write(book.code()).then(Call.property(4, 7, METHOD, begun),
                Call.property(1, 1, METHOD, called), Call.property(0, 2, METHOD, throwing), Call.property(2, 1, NUMBER, 22),
                Call.begin(4, 7), Call.run(2 + 2 + 2));
        Check.same("caught", shown(story.machine()), "2 at " + (called + 14) + " self 3 | 3:1");
        Check.same("SELF is 3, and 2 is behind 1", Tale.rest(story.machine()), "1 said 3:1 3:3 result 2:22");
    }

    /** A fault in code that a handler goes on with leaves the frames as they are; nothing is thrown by it. */
    private static void faultBehindAHandler() {
        Book book = new Book();
        int throwing = book.method(0, 0, PUT_OBJECT, 3, THROW);
        int second = book.handling(0, 1, all(3, 4), CALL, 0, 0, throwing, BYTE, 4, PLUS);
        int begun = book.handling(0, 0, all(0, 0), BYTE, 1, CALL, 0, 0, second);
        TaleMachine m = begun("fault", book, begun).machine();
        Check.same("a fault", m.run(3000), 3);
        Check.same("frames stay", shown(m), "2 at " + (second + 7 + 6) + " self -1 | 2:1 0:0 3:3 2:4");
    }

    /** A handler calls what throws again: below it lies the frame that caught first, at its running instruction. */
    private static void calledByAHandler() {
        Book book = new Book();
        int throwing = book.method(1, 0, LOCAL, 0, SAY, LOCAL, 0, THROW);
        int begun = book.handling(0, 0, new int[][] {{0, 2, 1, 6}, {6, 8, 2, 13}, {13, 255, 0, 20}},
                PUT_OBJECT, 1, CALL, 1, 0, throwing, PUT_OBJECT, 2, CALL, 1, 0, throwing, END,
                PUT_OBJECT, 4, CALL, 1, 0, throwing, END, END);
        TaleMachine m = begun("called by a handler", book, begun).machine();
        m.run(6);
        Check.same("the first", shown(m), "1 at " + (begun + 15 + 6) + " self 4 | 3:1");
        m.run(6);
        Check.same("the second, with its object alone", shown(m), "1 at " + (begun + 15 + 13) + " self 4 | 3:2");
        Check.same("4 is not of 0", Tale.rest(m), "2 said 3:1 3:2 3:4 result 3:4");
    }
}
