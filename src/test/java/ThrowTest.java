/** Promise 6: throwing (27, and OVER 0). */
final class ThrowTest implements Instructions {
    public static void main(String[] args) {
        ownHandler();
        edges();
        firstHandlerThatCounts();
        framesBelow();
        handlersObjects();
        goals();
        Check.end();
    }

    private static void ownHandler() {
        TaleMachine m = Tale.begun(
                0, 1, 1, 0, 6, 1, 8, BYTE, 9, PUT_NIL, PUT_OBJECT, 2, THROW, 0, 0, SAY, BYTE, 5, END);
        m.run(4);
        Check.same("arguments, locals and the object", Tale.stack(m), "0:0 3:2");
        Check.same("at GOAL", m.show(1), 15);
        Check.same("and on", Tale.rest(m), "1 said 3:2 result 2:5");
        Check.same("over 0 is caught as OBJECT 0", Tale.told(
                0, 0, 1, 4, 4, 0, 6, BYTE, 9, BYTE, 0, OVER, NOTHING, SAY, END_NIL), "1 said 3:0 result 0:0");
    }

    /** A throw two bytes behind the beginning, with a handler from and to these places. */
    private static String caught(int from, int to) {
        return Tale.told(0, 0, 1, from, to, 0, 4, PUT_OBJECT, 2, THROW, 99, BYTE, 1, END);
    }

    private static void edges() {
        Check.same("just there", caught(2, 2), "1 said result 2:1");
        Check.same("around", caught(0, 255), "1 said result 2:1");
        Check.same("behind", caught(3, 9), "2 said result 3:2");
        Check.same("before", caught(0, 1), "2 said result 3:2");
        Check.same("the wrong way round", caught(9, 0), "2 said result 3:2");
        Check.same("the first byte counts", Tale.told(
                0, 0, 1, 1, 9, 0, 5, CALL, 0, 0, 14, 0, BYTE, 1,
                0, 0, 0, PUT_OBJECT, 1, THROW), "2 said result 3:1");
        Check.same("and is enough", Tale.told(
                0, 0, 1, 0, 0, 0, 5, CALL, 0, 0, 15, 0, BYTE, 1, END,
                0, 0, 0, PUT_OBJECT, 1, THROW), "1 said result 2:1");
    }

    private static void firstHandlerThatCounts() {
        int[] body = {PUT_OBJECT, 1, THROW, BYTE, 1, END, BYTE, 2, END, BYTE, 3, END};
        Check.same("the first", Tale.told(Tale.join(Tale.bytes(
                0, 0, 3, 0, 9, 1, 3, 0, 9, 1, 6, 0, 9, 0, 9), body)), "1 said result 2:1");
        Check.same("not one whose object it is not of", Tale.told(Tale.join(Tale.bytes(
                0, 0, 3, 0, 9, 2, 3, 0, 9, 0, 6, 0, 9, 1, 9), body)), "1 said result 2:2");
        Check.same("not one that is elsewhere", Tale.told(Tale.join(Tale.bytes(
                0, 0, 3, 0, 1, 1, 3, 3, 9, 1, 6, 2, 2, 0, 9), body)), "1 said result 2:3");
    }

    private static void framesBelow() {
        TaleMachine m = Tale.begun(
                0, 1, 1, 2, 2, 0, 8, BYTE, 7, CALL, 0, 0, 20, END_NIL, 0, SAY, END_NIL, 0, 0, 0,
                0, 2, 1, 0, 0, 0, 0, BYTE, 8, CALL, 0, 0, 35, END_NIL, 0,
                0, 1, 0, BYTE, 1, BYTE, 2, PUT_OBJECT, 2, THROW);
        m.run(7);
        Check.same("three frames", m.show(0) + " " + Tale.stack(m), "3 0:0 2:7 0:0 0:0 2:8 0:0 2:1 2:2 3:2");
        Check.same("thrown", m.run(1), 0);
        Check.same("one frame", m.show(0) + " " + Tale.stack(m), "1 0:0 3:2");
        Check.same("its place", m.show(1), 15);
        Check.same("on", Tale.rest(m), "1 said 3:2 result 0:0");
    }

    private static void handlersObjects() {
        Check.same("an object that is not there", Tale.told(
                0, 0, 2, 0, 9, 9, 3, 0, 9, 200, 3, PUT_OBJECT, 2, THROW, END_NIL), "2 said result 3:2");
        Check.same("a made object", Tale.told(
                0, 0, 2, 0, 9, 16, 6, 0, 9, 1, 9, MAKE, 1, THROW, 0, 0, 0, BYTE, 1, END), "1 said result 2:1");
        Check.same("a made object is of its parent", Tale.told(
                0, 0, 1, 0, 9, 0, 6, MAKE, 1, THROW, 0, 0, 0, END), "1 said result 3:16");
    }

    private static void goals() {
        TaleMachine m = Tale.begun(0, 0, 1, 0, 9, 0, 255, PUT_OBJECT, 2, THROW);
        Check.same("GOAL may be outside", m.run(2), 0);
        Check.same("there", m.show(1) + " " + Tale.stack(m), "262 3:2");
        Check.same("is a fault", m.run(1), 3);
        Check.same("thrown again in the handler", Tale.told(
                0, 0, 1, 0, 2, 0, 3, PUT_OBJECT, 2, THROW, THROW), "2 said result 3:2");
    }
}
