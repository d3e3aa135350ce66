import java.util.NoSuchElementException;

/** Promise 1: no objects, no code, no run. */
final class NewObjectTest implements Instructions {
    public static void main(String[] args) {
        TaleMachine m = new TaleMachine();
        Check.same("run", m.run(10), -1);
        Check.no("stop", m.stop());
        Check.same("collect", m.collect(), 0);
        Check.same("frames", m.show(0), 0);
        Check.same("points", m.show(3), 0);
        Check.same("objects", m.show(4), 0);
        Check.same("said", m.show(5), 0);
        Check.fails("place", NoSuchElementException.class, () -> m.show(1));
        Check.fails("self", NoSuchElementException.class, () -> m.show(2));
        Check.fails("stack", NoSuchElementException.class, () -> m.stack(0, 0));
        Check.fails("said 0", NoSuchElementException.class, () -> m.said(0, 0));
        Check.fails("result", NoSuchElementException.class, () -> m.said(-1, 0));
        for (int o = -1; o <= 32; o++) {
            int at = o;
            Check.no("isOf", m.isOf(o, o));
            Check.fails("has", NoSuchElementException.class, () -> m.has(at, 0, 0));
        }
        noCode();
        Check.end();
    }

    private static void noCode() {
        TaleMachine m = new TaleMachine();
        m.object(-1, -1, -1);
        m.property(0, 0, METHOD, 0);
        Check.fails("begin", IllegalArgumentException.class, () -> m.begin(0, 0));
        Tale.write(m, 0, 0, 0, END_NIL);
        m.begin(0, 0);
        Check.same("the first byte stands at 0", Tale.rest(m), "1 said result 0:0");
    }
}
