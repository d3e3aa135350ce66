import java.util.NoSuchElementException;

/** Promise 5: begin. */
final class BeginTest implements Instructions {
    public static void main(String[] args) {
        selfAndFound();
        wrong();
        cannotBeCalled();
        whatGoesAndWhatStays();
        Check.end();
    }

    private static void selfAndFound() {
        TaleMachine m = Tale.with(
                0, 2, 0, SELF, SAY, INHERITED, 0, 3, SAY, END_NIL);
        m.property(1, 3, METHOD, 0);
        m.property(0, 3, NUMBER, 77);
        m.begin(2, 3);
        Check.same("frames", m.show(0), 1);
        Check.same("place", m.show(1), 3);
        Check.same("self", m.show(2), 2);
        Check.same("locals", Tale.stack(m), "0:0 0:0");
        Check.same("goes on", m.run(0), 0);
        Check.same("SELF is the object, FOUND where the method is", Tale.rest(m), "1 said 3:2 2:77 result 0:0");
    }

    private static void wrong() {
        TaleMachine m = Tale.with(0, 0, 0, END_NIL);
        m.property(0, 0, METHOD, 0);
        m.property(0, 1, NUMBER, 0);
        m.property(1, 0, NIL, 0);
        for (int o : new int[] {-1, 3, 16, 32, Integer.MIN_VALUE, Integer.MAX_VALUE}) {
            Check.fails("object " + o, NoSuchElementException.class, () -> m.begin(o, 0));
            Check.fails("object " + o + ", no property", NoSuchElementException.class, () -> m.begin(o, 8));
        }
        for (int p : new int[] {-1, 8, 2, 1, Integer.MIN_VALUE, Integer.MAX_VALUE}) {
            Check.fails("property " + p, IllegalArgumentException.class, () -> m.begin(0, p));
        }
        Check.fails("the first own value is no METHOD", IllegalArgumentException.class, () -> m.begin(2, 0));
        Check.same("none has begun", m.run(5), -1);
        m.begin(0, 0);
        Check.fails("under way", IllegalStateException.class, () -> m.begin(0, 0));
        Check.fails("under way, no object", NoSuchElementException.class, () -> m.begin(5, 0));
        Check.fails("under way, no method", IllegalArgumentException.class, () -> m.begin(0, 1));
        Check.same("the run goes on", m.run(5), 1);
        m.begin(0, 0);
        Check.same("another one", m.run(0), 0);
    }

    private static boolean canBegin(int... bytes) {
        TaleMachine m = Tale.with(bytes);
        m.property(0, 0, METHOD, 0);
        try {
            m.begin(0, 0);
            return true;
        } catch (IllegalArgumentException e) {
            Check.same("nothing has begun", m.run(1), -1);
            return false;
        }
    }

    private static void cannotBeCalled() {
        Check.no("no head", canBegin());
        Check.no("one byte", canBegin(0));
        Check.no("two bytes", canBegin(0, 0));
        Check.yes("up to its beginning", canBegin(0, 0, 0));
        Check.no("one argument", canBegin(1, 0, 0, END_NIL));
        Check.no("255 arguments", canBegin(255, 0, 0, END_NIL));
        Check.yes("three locals", canBegin(0, 3, 0, END_NIL));
        Check.no("four locals", canBegin(0, 4, 0, END_NIL));
        Check.no("255 locals", canBegin(0, 255, 0, END_NIL));
        Check.no("four handlers", canBegin(Tale.join(Tale.bytes(0, 0, 4), Tale.times(16, 0), Tale.bytes(END_NIL))));
        Check.no("no whole handler", canBegin(0, 0, 1, 0, 0, 0));
        Check.yes("a whole handler", canBegin(0, 0, 1, 0, 0, 0, 0));
        Check.no("two of three handlers", canBegin(Tale.join(Tale.bytes(0, 0, 3), Tale.times(11, 0))));
        Check.yes("three handlers", canBegin(Tale.join(Tale.bytes(0, 0, 3), Tale.times(12, 0))));
    }

    private static void whatGoesAndWhatStays() {
        TaleMachine m = Tale.with(
                0, 1, 0, MAKE, 0, SAVE, 1, AGAIN, SAY, PUT_NIL, PUT_TRUE, PLUS,
                0, 0, 0, BYTE, 5, SAY, BYTE, 6, END,
                0, 0, 0, LOAD, 1, END);
        m.property(0, 0, METHOD, 0);
        m.property(0, 1, METHOD, 12);
        m.property(0, 2, METHOD, 21);
        m.begin(0, 0);
        Check.same("a fault", Tale.rest(m), "3 said 3:16 at 11");
        Check.same("frames stay", Tale.stack(m), "0:0 3:16 0:0 1:1");
        Check.fails("not a method", IllegalArgumentException.class, () -> m.begin(0, 3));
        Check.same("a refused begin changes nothing", m.show(5) + " " + m.show(0) + " " + m.run(1), "1 1 3");
        m.begin(0, 1);
        Check.same("frames", m.show(0), 1);
        Check.same("stack", Tale.stack(m), "");
        Check.same("said", m.show(5), 0);
        Check.fails("result", NoSuchElementException.class, () -> m.said(-1, 0));
        Check.same("objects stay", m.show(4), 4);
        Check.same("a result", Tale.rest(m), "1 said 2:5 result 2:6");
        m.begin(0, 2);
        Check.fails("the result is gone", NoSuchElementException.class, () -> m.said(-1, 0));
        Check.same("what was said is gone", m.show(5), 0);
        Check.same("what was saved stays", Tale.rest(m), "1 said result 1:1");
    }
}
