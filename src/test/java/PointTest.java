import java.util.NoSuchElementException;

/** Promise 6: points (31, 32), and what is saved (33, 34). */
final class PointTest implements Instructions {
    public static void main(String[] args) {
        undoing();
        atMostThree();
        whatComesBack();
        saving();
        betweenRuns();
        pointsGo();
        Check.end();
    }

    private static void undoing() {
        Check.same("no point", Tale.told(0, 0, 0, UNDO, END), "1 said result 0:0");
        TaleMachine m = Tale.begun(0, 1, 0,
                POINT, BYTE, 5, PUT_OBJECT, 1, SET, 0, BYTE, 6, INTO, 0, BYTE, 7, SAY, UNDO, SAY, LOCAL, 0, END);
        m.run(8);
        Check.same("a point", m.show(3), 1);
        Check.same("changed", m.has(1, 0, 1), 5);
        m.run(1);
        Check.same("the point goes", m.show(3), 0);
        Check.fails("undone", NoSuchElementException.class, () -> m.has(1, 0, 1));
        Check.same("locals and what was said are as they are", Tale.rest(m), "1 said 2:7 1:1 result 2:6");
    }

    private static void atMostThree() {
        TaleMachine m = Tale.begun(0, 0, 0,
                POINT, BYTE, 1, PUT_OBJECT, 0, SET, 0,
                POINT, BYTE, 2, PUT_OBJECT, 0, SET, 0,
                POINT, BYTE, 3, PUT_OBJECT, 0, SET, 0,
                POINT, BYTE, 4, PUT_OBJECT, 0, SET, 0,
                UNDO, DROP, UNDO, DROP, UNDO, DROP, UNDO, END);
        m.run(9);
        Check.same("three", m.show(3), 3);
        m.run(4);
        Check.same("and no more", m.show(3), 3);
        Check.same("no fault, four values were set", m.run(3) + " " + m.has(0, 0, 1), "0 4");
        for (int due = 3; due >= 1; due--) {
            m.run(1);
            Check.same("undone to " + due, m.has(0, 0, 1) + " points " + m.show(3), due + " points " + (due - 1));
            m.run(1);
        }
        Check.same("the oldest has gone", Tale.rest(m), "1 said result 0:0");
        Check.same("and is not undone", m.has(0, 0, 1), 1);
    }

    private static void whatComesBack() {
        TaleMachine m = Tale.begun(0, 1, 0,
                BYTE, 9, MAKE, 1, SET, 3, POINT, MAKE, 2, INTO, 0, UNDO, DROP, PUT_OBJECT, 16, END);
        m.run(4);
        Check.same("a made one", m.show(4), 4);
        Check.same("goes by collecting", m.collect(), 1);
        m.run(2);
        Check.same("its number is taken", m.isOf(16, 2), true);
        m.run(1);
        Check.same("as it was", m.isOf(16, 2) + " " + m.isOf(16, 1) + " " + m.has(16, 3, 1), "false true 9");
        TaleMachine made = Tale.begun(0, 0, 0, POINT, MAKE, 1, MAKE, 16, DROP, UNDO, END);
        made.run(3);
        Check.same("two made", made.show(4), 5);
        made.run(2);
        Check.same("gone", made.show(4), 3);
        Check.same("an OBJECT that is not there on the stack", Tale.stack(made), "3:16 1:1");
    }

    private static void saving() {
        Check.same("nothing saved", Tale.told(0, 0, 0, LOAD, 0, SAY, LOAD, 1, END), "1 said 0:0 result 0:0");
        TaleMachine m = Tale.begun(0, 0, 0,
                SAVE, 0, BYTE, 1, PUT_OBJECT, 0, SET, 0, SAVE, 1, MAKE, 2, DROP, POINT, POINT,
                LOAD, 0, DROP, LOAD, 1, DROP, LOAD, 1, END);
        m.run(9);
        Check.same("points before", m.show(3), 2);
        m.run(1);
        Check.same("all points go", m.show(3), 0);
        Check.fails("as it was in 0", NoSuchElementException.class, () -> m.has(0, 0, 1));
        Check.same("objects as they were", m.show(4), 3);
        m.run(2);
        Check.same("as it was in 1", m.has(0, 0, 1), 1);
        Check.same("what is saved stays saved", Tale.rest(m), "1 said result 1:1");
        TaleMachine points = Tale.begun(0, 0, 0, POINT, LOAD, 0, END);
        points.run(2);
        Check.same("points stay if nothing is saved", points.show(3), 1);
        Check.same("saved anew", Tale.told(0, 0, 0,
                SAVE, 0, BYTE, 1, PUT_OBJECT, 0, SET, 0, SAVE, 0, BYTE, 2, PUT_OBJECT, 0, SET, 0, LOAD, 0, DROP,
                PUT_OBJECT, 0, ASK, 0, 0, END), "1 said result 2:1");
    }

    private static void betweenRuns() {
        TaleMachine m = Tale.with(
                0, 0, 0, MAKE, 1, PUT_OBJECT, 0, SET, 2, SAVE, 1, END_NIL,
                0, 0, 0, LOAD, 1, END);
        m.property(0, 0, METHOD, 0);
        m.property(0, 1, METHOD, 12);
        m.begin(0, 0);
        m.run(9);
        m.property(0, 2, -1, 0);
        m.property(2, 5, NUMBER, 4);
        Check.same("gone", m.collect(), 1);
        m.begin(0, 1);
        Check.same("brought back", Tale.rest(m), "1 said result 1:1");
        Check.same("an object that went", m.has(0, 2, 1) + " " + m.isOf(16, 1), "16 true");
        Check.fails("and a change from outside", NoSuchElementException.class, () -> m.has(2, 5, 0));
    }

    private static void pointsGo() {
        TaleMachine ended = Tale.begun(0, 0, 0, POINT, END_NIL);
        Check.same("ended", ended.run(9) + " " + ended.show(3), "1 0");
        TaleMachine uncaught = Tale.begun(0, 0, 0, POINT, SELF, THROW);
        Check.same("uncaught", uncaught.run(9) + " " + uncaught.show(3), "2 0");
        TaleMachine fault = Tale.begun(0, 0, 0, POINT, DROP);
        Check.same("fault", fault.run(9) + " " + fault.show(3), "3 0");
        TaleMachine stopped = Tale.begun(0, 0, 0, POINT, NOTHING);
        Check.same("under way", stopped.run(1) + " " + stopped.show(3), "0 1");
        stopped.stop();
        Check.same("stopped", stopped.show(3), 0);
        TaleMachine kept = Tale.begun(0, 0, 0, CALL, 0, 0, 8, END, 0, 0, 0, POINT, END_NIL);
        kept.run(3);
        Check.same("a frame's end is not the run's", kept.show(3), 1);
    }
}
