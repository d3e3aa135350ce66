/** Promise 6: calls: ASK (21), INHERITED (23), calls of addresses (24), and how frames end (25, 26). */
final class CallTest implements Instructions {
    public static void main(String[] args) {
        addresses();
        asking();
        inherited();
        foundOutsideOfTheLine();
        fullStack();
        manyFrames();
        Check.end();
    }

    private static void addresses() {
        TaleMachine m = Tale.begun(
                0, 0, 0, BYTE, 9, BYTE, 10, BYTE, 3, CALL, 2, 0, 16, MINUS, END, 0,
                2, 1, 0, LOCAL, 0, LOCAL, 1, SELF, DROP, MINUS, END);
        m.run(4);
        Check.same("arguments are the new frame's", Tale.stack(m), "2:9 2:10 2:3 0:0");
        Check.same("frame, place and no SELF", m.show(0) + " " + m.show(1) + " " + m.show(2), "2 19 -1");
        m.run(6);
        Check.same("the value is put for the frame below", Tale.stack(m), "2:9 2:7");
        Check.same("which goes on behind its instruction", m.show(0) + " " + m.show(1), "1 13");
        Check.same("and to the end", Tale.rest(m), "1 said result 2:2");
        Check.same("SELF is NIL", Tale.told(0, 0, 0, CALL, 0, 0, 8, END, 0, 0, 0, SELF, END), "1 said result 0:0");
        Check.same("FOUND is none", Tale.told(0, 0, 0, CALL, 0, 0, 8, END, 0, 0, 0, INHERITED, 0, 0, END),
                "3 said at 11");
        Check.same("ends with NIL", Tale.told(0, 0, 0, CALL, 0, 0, 8, END, 0, 0, 0, END_NIL), "1 said result 0:0");
    }

    private static void asking() {
        TaleMachine m = Tale.with(
                0, 0, 0, BYTE, 5, PUT_OBJECT, 2, ASK, 1, 1, SAY,
                PUT_OBJECT, 2, ASK, 0, 2, SAY, PUT_OBJECT, 2, ASK, 0, 3, END,
                1, 0, 0, LOCAL, 0, SAY, SELF, END);
        m.property(0, 0, METHOD, 0);
        m.property(0, 1, METHOD, 23);
        m.property(1, 2, NUMBER, 6);
        m.begin(0, 0);
        m.run(3);
        Check.same("frame, place and SELF", m.show(0) + " " + m.show(1) + " " + m.show(2), "2 26 2");
        Check.same("the arguments alone", Tale.stack(m), "2:5");
        Check.same("methods, values and nothing", Tale.rest(m), "1 said 2:5 3:2 2:6 result 0:0");
        TaleMachine no = Tale.with(0, 0, 0, BYTE, 5, PUT_OBJECT, 2, ASK, 1, 3, END);
        no.property(0, 0, METHOD, 0);
        no.begin(0, 0);
        Check.same("n must be 0 for what is no METHOD", Tale.rest(no), "3 said at 7");
    }

    private static void inherited() {
        TaleMachine m = Tale.with(
                0, 0, 0, BYTE, 2, SAY, SELF, SAY, INHERITED, 0, 0, END,
                0, 0, 0, BYTE, 1, SAY, SELF, SAY, INHERITED, 0, 0, SAY, BYTE, 8, INHERITED, 1, 1, END,
                1, 0, 0, LOCAL, 0, BYTE, 1, PLUS, END);
        m.object(-1, -1, -1);
        m.object(2, 3, -1);
        m.property(2, 0, METHOD, 0);
        m.property(1, 0, METHOD, 12);
        m.property(0, 0, NUMBER, 50);
        m.property(4, 1, METHOD, 0);
        m.property(3, 1, METHOD, 30);
        m.begin(4, 0);
        Check.same("along SELF's line, behind FOUND", Tale.rest(m), "1 said 2:2 3:4 2:1 3:4 2:50 result 2:9");
        Check.same("nothing behind it", Tale.told(0, 0, 0, INHERITED, 0, 7, END), "1 said result 0:0");
    }

    private static void foundOutsideOfTheLine() {
        // 17 (of 16, of 1) goes with SELF by undoing; then 16 and 17 come again with the parent 0.
        TaleMachine m = Tale.with(
                0, 0, 0, POINT, MAKE, 1, DROP, MAKE, 16, DROP,
                PUT_METHOD, 0, 30, PUT_OBJECT, 16, SET, 1, PUT_OBJECT, 17, ASK, 0, 1, END,
                0, 0, 0, 0, 0, 0, 0,
                0, 0, 0, UNDO, DROP, SELF, SAY, MAKE, 0, DROP, MAKE, 0, DROP,
                BYTE, 4, PUT_OBJECT, 0, SET, 1, INHERITED, 0, 1, END);
        m.property(2, 7, METHOD, 0);
        m.begin(2, 7);
        m.run(12);
        Check.same("SELF is not there", m.show(4) + " " + m.show(2), "3 17");
        Check.same("SELF has nothing if FOUND is not in its line", Tale.rest(m), "1 said 3:17 result 0:0");
        TaleMachine gone = Tale.begun(0, 0, 0, POINT, MAKE, 1, DROP, PUT_METHOD, 0, 20, PUT_OBJECT, 16, SET, 1,
                PUT_OBJECT, 16, ASK, 0, 1, 0,
                0, 0, 0, UNDO, SELF, SAY, INHERITED, 0, 1, END);
        Check.same("SELF that is not there can be put, but has nothing to inherit",
                Tale.rest(gone), "3 said 3:16 at 26");
    }

    private static void fullStack() {
        int[] fill = Tale.times(40, PUT_NIL);
        Check.same("a 41st value", Tale.told(Tale.join(Tale.bytes(0, 0, 0), fill, Tale.bytes(PUT_NIL))),
                "3 said at 43");
        Check.same("an ASK takes and puts", Tale.told(Tale.join(Tale.bytes(0, 0, 0), Tale.times(39, PUT_NIL),
                Tale.bytes(PUT_OBJECT, 0, ASK, 0, 3, END))), "1 said result 0:0");
        Check.same("INHERITED puts only", Tale.told(Tale.join(Tale.bytes(0, 0, 0), fill,
                Tale.bytes(INHERITED, 0, 3, END))), "3 said at 43");
        TaleMachine m = Tale.begun(Tale.join(Tale.bytes(0, 0, 0), fill,
                Tale.bytes(CALL, 0, 0, 50, 0, 0, 0, 0, 0, 0, NOTHING, END_NIL)));
        m.run(41);
        Check.same("a frame without values has room", m.show(0) + " " + m.show(1), "2 53");
        Check.same("but what it ends with has none", Tale.rest(m), "3 said at 54");
        Check.same("and it has not gone", m.show(0), 2);
        Check.same("a local too much", Tale.told(Tale.join(Tale.bytes(0, 0, 0), fill,
                Tale.bytes(CALL, 0, 0, 50, 0, 0, 0, 0, 1, 0, END_NIL))), "3 said at 43");
        Check.same("arguments are not counted twice", Tale.told(Tale.join(Tale.bytes(0, 0, 0), fill,
                Tale.bytes(CALL, 3, 0, 50, END, 0, 0, 3, 0, 0, LOCAL, 0, END_NIL))), "3 said at 53");
        TaleMachine asked = Tale.with(Tale.join(Tale.bytes(0, 0, 0), Tale.times(39, PUT_NIL),
                Tale.bytes(PUT_OBJECT, 0, ASK, 0, 1, END, 0, 0, 0, 1, 0, END_NIL)));
        asked.property(0, 0, METHOD, 0);
        asked.property(0, 1, METHOD, 50);
        asked.begin(0, 0);
        Check.same("the object asked makes room for a local", Tale.rest(asked), "1 said result 0:0");
    }

    private static void manyFrames() {
        TaleMachine m = Tale.begun(0, 1, 0, CALL, 0, 0, 0);
        Check.same("a ninth frame", m.run(100), 3);
        Check.same("eight stay", m.show(0) + " at " + m.show(1), "8 at 3");
        Check.same("with their locals", Tale.stack(m), "0:0 0:0 0:0 0:0 0:0 0:0 0:0 0:0");
    }
}
