import java.util.NoSuchElementException;

/** Promise 7: stop. */
final class StopTest implements Instructions {
    public static void main(String[] args) {
        TaleMachine m = Tale.with(0, 0, 0, POINT, MAKE, 1, AGAIN, SAY, CALL, 0, 0, 14, END, 0, 0, 0, 0, NOTHING, END_NIL);
        Check.no("none has begun", m.stop());
        Check.same("nor does it then", m.run(1), -1);
        m.property(0, 0, METHOD, 0);
        m.begin(0, 0);
        m.run(5);
        Check.yes("under way", m.stop());
        Check.no("not twice", m.stop());
        Check.same("run answers 4", m.run(100), 4);
        Check.same("and again", m.run(0), 4);
        Check.same("frames stay", m.show(0) + " " + m.show(1) + " " + Tale.stack(m), "2 17 3:16");
        Check.same("what was said stays", m.show(5), 1);
        Check.same("points go", m.show(3), 0);
        Check.fails("no result", NoSuchElementException.class, () -> m.said(-1, 0));
        Check.same("made objects stay", m.show(4), 4);
        m.begin(0, 0);
        Check.same("another run", m.run(100), 1);
        Check.no("over", m.stop());
        Check.same("as it was over", m.run(1), 1);
        Check.end();
    }
}
