import java.util.NoSuchElementException;

/** Promise 4: property. */
final class PropertyTest implements Instructions {
    public static void main(String[] args) {
        values();
        wrong();
        madeObjects();
        orderOfWrongs();
        Check.end();
    }

    private static String had(TaleMachine m, int o, int p) {
        return m.has(o, p, 0) + ":" + m.has(o, p, 1) + " of " + m.has(o, p, 2);
    }

    private static void values() {
        TaleMachine m = Tale.with();
        m.property(0, 0, NIL, 55);
        Check.same("NIL whatever the int", had(m, 0, 0), "0:0 of 0");
        m.property(0, 1, TRUE, -3);
        Check.same("TRUE whatever the int", had(m, 0, 1), "1:1 of 0");
        m.property(0, 7, NUMBER, Integer.MIN_VALUE);
        Check.same("NUMBER", had(m, 0, 7), "2:-2147483648 of 0");
        m.property(0, 2, OBJECT, 2);
        Check.same("OBJECT", had(m, 0, 2), "3:2 of 0");
        m.property(0, 3, METHOD, 299);
        Check.same("METHOD", had(m, 0, 3), "4:299 of 0");
        m.property(0, 3, METHOD, 0);
        Check.same("another value", had(m, 0, 3), "4:0 of 0");
        m.property(1, 3, NIL, 0);
        Check.same("an own NIL counts", had(m, 2, 3), "0:0 of 1");
        m.property(1, 3, -1, 77);
        Check.same("none any more", had(m, 2, 3), "4:0 of 0");
        m.property(1, 3, -1, 77);
        m.property(0, 3, -1, 0);
        Check.fails("none at all", NoSuchElementException.class, () -> m.has(2, 3, 0));
    }

    private static void wrong() {
        TaleMachine m = Tale.with();
        m.property(0, 0, NUMBER, 5);
        for (int o : new int[] {-1, 3, 15, 16, 31, 32, Integer.MAX_VALUE, Integer.MIN_VALUE}) {
            Check.fails("object " + o, NoSuchElementException.class, () -> m.property(o, 0, NIL, 0));
            Check.fails("to object " + o, IllegalArgumentException.class, () -> m.property(0, 0, OBJECT, o));
        }
        for (int p : new int[] {-1, 8, Integer.MAX_VALUE, Integer.MIN_VALUE}) {
            Check.fails("property " + p, IllegalArgumentException.class, () -> m.property(0, p, NIL, 0));
        }
        for (int kind : new int[] {-2, 5, Integer.MAX_VALUE, Integer.MIN_VALUE}) {
            Check.fails("kind " + kind, IllegalArgumentException.class, () -> m.property(0, 0, kind, 0));
        }
        for (int address : new int[] {-1, 300, Integer.MAX_VALUE, Integer.MIN_VALUE}) {
            Check.fails("method " + address, IllegalArgumentException.class, () -> m.property(0, 0, METHOD, address));
        }
        Check.same("nothing was changed", had(m, 0, 0), "2:5 of 0");
    }

    private static void madeObjects() {
        TaleMachine m = Tale.begun(0, 0, 0, MAKE, 1, END);
        m.run(9);
        m.property(16, 4, NUMBER, 8);
        Check.same("a made object's own", had(m, 16, 4), "2:8 of 16");
        m.property(0, 4, OBJECT, 16);
        Check.same("a made object as value", had(m, 0, 4), "3:16 of 0");
    }

    private static void orderOfWrongs() {
        TaleMachine m = Tale.begun(0, 0, 0, END_NIL);
        Check.fails("run", IllegalStateException.class, () -> m.property(0, 0, NIL, 0));
        Check.fails("run, taking away", IllegalStateException.class, () -> m.property(0, 0, -1, 0));
        Check.fails("run, no object", NoSuchElementException.class, () -> m.property(9, 0, NIL, 0));
        Check.fails("run, no property", IllegalArgumentException.class, () -> m.property(0, 8, NIL, 0));
        Check.fails("no object, no property", NoSuchElementException.class, () -> m.property(9, 8, 9, 0));
        m.stop();
        m.property(0, 0, NIL, 0);
        Check.same("after a stop", had(m, 0, 0), "0:0 of 0");
    }
}
