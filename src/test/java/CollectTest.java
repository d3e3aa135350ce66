/** Promise 8: collect. */
final class CollectTest implements Instructions {
    public static void main(String[] args) {
        stackAndSelf();
        selfOfTheLowestFrame();
        found();
        all();
        afterAFaultAndAStop();
        resultCounts();
        ways();
        whatDoesNotCount();
        notThere();
        Check.end();
    }

    private static void stackAndSelf() {
        // 16 lies on the stack of the frame below, 17 is SELF, nobody has 18 and 19.
        TaleMachine m = Tale.begun(
                0, 0, 0, MAKE, 0, MAKE, 0, DROP, MAKE, 0, DROP, MAKE, 0, DROP,
                PUT_METHOD, 0, 30, PUT_OBJECT, 17, SET, 0, PUT_OBJECT, 17, ASK, 0, 0, 0, 0, 0, 0,
                0, 0, 0, SELF, THROW);
        Check.same("fixed ones never go", m.collect(), 0);
        m.run(7);
        Check.same("made", m.show(4), 7);
        m.run(5);
        Check.same("frames", m.show(0) + " " + m.show(2), "2 17");
        Check.same("two go", m.collect(), 2);
        Check.same("those", there(m), "0 1 2 16 17");
        Check.same("no more go", m.collect(), 0);
        Check.same("uncaught", m.run(9), 2);
        Check.same("after it only the result counts", m.collect(), 1);
        Check.same("it is 17", there(m), "0 1 2 17");
    }

    private static void selfOfTheLowestFrame() {
        TaleMachine m = Tale.with(0, 0, 0, MAKE, 0, END, 0, 0, 0, CALL, 0, 0, 14, END, 0, 0, 0, NOTHING, END_NIL);
        m.property(0, 0, METHOD, 0);
        m.property(0, 1, METHOD, 6);
        m.begin(0, 0);
        m.run(9);
        m.begin(16, 1);
        m.run(1);
        Check.same("two frames", m.show(0) + " " + m.collect() + " " + there(m), "2 0 0 1 2 16");
        m.run(9);
        Check.same("no frames", m.show(0) + " " + m.collect() + " " + there(m), "0 1 0 1 2");
    }

    private static void all() {
        TaleMachine m = new TaleMachine();
        for (int o = 0; o < 16; o++) {
            m.object(-1, -1, -1);
        }
        // Each made object is the parent of the next one, and 31 is the result.
        int[] code = {0, 0, 0};
        for (int o = 15; o < 31; o++) {
            code = Tale.join(code, Tale.bytes(MAKE, o, DROP));
        }
        Tale.write(m, Tale.join(code, Tale.bytes(PUT_OBJECT, 31, END)));
        m.property(0, 0, METHOD, 0);
        m.begin(0, 0);
        Check.same("ended", m.run(99), 1);
        Check.same("all 32 are come to", m.collect() + " " + m.show(4), "0 32");
        m.begin(0, 0);
        Check.same("all made ones go", m.collect() + " " + m.show(4), "16 16");
    }

    private static void found() {
        // The method is found in 16, SELF is 17, made of 16; brought back, 17 is made of 0.
        TaleMachine n = Tale.with(
                0, 0, 0, MAKE, 0, DROP, MAKE, 0, DROP, SAVE, 0, END_NIL,
                0, 0, 0, MAKE, 0, DROP, MAKE, 16, DROP, PUT_METHOD, 0, 36, PUT_OBJECT, 16, SET, 0,
                PUT_OBJECT, 17, ASK, 0, 0, END, 0, 0,
                0, 0, 0, LOAD, 0, DROP, NOTHING, END_NIL);
        n.property(0, 1, METHOD, 0);
        n.property(0, 2, METHOD, 12);
        n.begin(0, 1);
        n.run(9);
        Check.same("nobody has them", n.collect(), 2);
        n.begin(0, 2);
        n.run(11);
        Check.same("brought back", n.show(2) + " " + n.isOf(17, 16) + " " + n.isOf(17, 0), "17 false true");
        Check.same("SELF and FOUND stay", n.collect() + " " + there(n), "0 0 1 2 16 17");
        n.run(9);
        Check.same("until the frame goes", n.collect() + " " + there(n), "2 0 1 2");
    }

    private static String there(TaleMachine m) {
        StringBuilder text = new StringBuilder();
        for (int o = 0; o < 32; o++) {
            if (m.isOf(o, o)) {
                text.append(o).append(' ');
            }
        }
        return text.toString().trim();
    }

    private static void afterAFaultAndAStop() {
        TaleMachine fault = Tale.begun(0, 1, 0, MAKE, 0, INTO, 0, MAKE, 0, MAKE, 0, DROP, 99);
        Check.same("fault", fault.run(9), 3);
        Check.same("its values count", fault.collect() + " " + there(fault), "1 0 1 2 16 17");
        TaleMachine stopped = Tale.begun(0, 1, 0, MAKE, 0, INTO, 0, MAKE, 0, MAKE, 0, DROP, 99);
        stopped.run(5);
        stopped.stop();
        Check.same("so they do after a stop", stopped.collect() + " " + there(stopped), "1 0 1 2 16 17");
        fault.begin(2, 7);
        Check.same("until another run begins", fault.collect() + " " + there(fault), "2 0 1 2");
    }

    private static void resultCounts() {
        TaleMachine m = Tale.begun(0, 0, 0, MAKE, 0, MAKE, 0, END);
        m.run(9);
        Check.same("the result", m.collect() + " " + there(m), "1 0 1 2 17");
        m.begin(2, 7);
        Check.same("is gone", m.collect() + " " + there(m), "1 0 1 2");
    }

    private static void ways() {
        // 1 has 16, and 16 has 17; the result is 19, made of 18; 20 and 21 have each other alone.
        TaleMachine m = Tale.begun(
                0, 0, 0, MAKE, 0, PUT_OBJECT, 1, SET, 3, MAKE, 0, PUT_OBJECT, 16, SET, 5,
                MAKE, 0, DROP, MAKE, 18, MAKE, 0, PUT_OBJECT, 20, MAKE, 0, SET, 0,
                PUT_OBJECT, 21, PUT_OBJECT, 20, SET, 1, DROP, END);
        Check.same("ended", m.run(99), 1);
        Check.same("result", m.said(-1, 1), 19);
        Check.same("all made", m.show(4), 9);
        Check.same("two that only have each other", m.collect() + " " + there(m), "2 0 1 2 16 17 18 19");
        m.property(16, 5, NUMBER, 17);
        Check.same("a NUMBER is no OBJECT", m.collect() + " " + there(m), "1 0 1 2 16 18 19");
        m.property(1, 3, -1, 16);
        Check.same("an own value that is gone", m.collect() + " " + there(m), "1 0 1 2 18 19");
        parentsWithHigherNumbers();
        firstAndLastProperty();
    }

    private static void parentsWithHigherNumbers() {
        TaleMachine m = Tale.begun(0, 1, 0, MAKE, 0, DROP, MAKE, 0, INTO, 0, NOTHING, MAKE, 17, END);
        m.run(4);
        Check.same("16 goes", m.collect(), 1);
        Check.same("and is made of 17", m.run(9) + " " + m.isOf(16, 17), "1 true");
        Check.same("17 is come to as a parent", m.collect() + " " + there(m), "0 0 1 2 16 17");
    }

    private static void firstAndLastProperty() {
        TaleMachine m = Tale.begun(0, 0, 0, MAKE, 0, PUT_OBJECT, 1, SET, 0, MAKE, 0, PUT_OBJECT, 16, SET, 7, END_NIL);
        m.run(9);
        Check.same("a chain", m.collect() + " " + there(m), "0 0 1 2 16 17");
        m.property(1, 0, -1, 0);
        Check.same("goes whole", m.collect() + " " + there(m), "2 0 1 2");
    }

    private static void whatDoesNotCount() {
        TaleMachine m = Tale.begun(
                0, 0, 0, MAKE, 0, SAY, BYTE, 1, DROP, POINT, SAVE, 0, BYTE, 16, END);
        m.run(6);
        Check.same("said, points, saved", m.collect() + " " + there(m), "1 0 1 2");
        Check.same("it is still said", m.said(0, 0) + ":" + m.said(0, 1), "3:16");
        Check.same("a NUMBER as result", m.run(9) + " " + m.said(-1, 1), "1 16");
    }

    private static void notThere() {
        TaleMachine m = Tale.begun(0, 1, 0, POINT, MAKE, 0, MAKE, 0, UNDO, NOTHING, MAKE, 1, NOTHING);
        m.run(4);
        Check.same("OBJECTS that are not there hold nothing", m.collect() + " " + Tale.stack(m), "0 0:0 3:16 3:17 1:1");
        m.run(2);
        Check.same("a number that is taken again", m.collect() + " " + there(m), "0 0 1 2 16");
        m.stop();
        Check.fails("fixed", IllegalArgumentException.class, () -> m.property(0, 0, OBJECT, 17));
    }
}
