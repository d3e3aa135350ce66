import java.util.NoSuchElementException;

/** Promise 12: has. */
final class HasTest implements Instructions {
    public static void main(String[] args) {
        TaleMachine m = Tale.with();
        m.object(-1, -1, -1);
        m.object(1, 3, 0);
        m.property(0, 0, NUMBER, 10);
        m.property(3, 0, NUMBER, 13);
        m.property(3, 1, TRUE, 0);
        m.property(4, 2, OBJECT, 2);
        Check.same("the line of 4 is 4 1 3 0", had(m, 4, 0), "2:13 of 3");
        Check.same("inherited", had(m, 4, 1), "1:1 of 3");
        Check.same("its own", had(m, 4, 2), "3:2 of 4");
        Check.same("far", had(m, 2, 0), "2:10 of 0");
        m.property(1, 0, NIL, 0);
        Check.same("an own NIL is a value", had(m, 4, 0), "0:0 of 1");
        Check.fails("none", NoSuchElementException.class, () -> m.has(4, 3, 0));
        Check.fails("a parent has nothing of its child", NoSuchElementException.class, () -> m.has(1, 2, 0));
        for (int o : new int[] {-1, 5, 16, 31, 32, Integer.MIN_VALUE, Integer.MAX_VALUE}) {
            Check.fails("object " + o, NoSuchElementException.class, () -> m.has(o, 0, 0));
        }
        for (int p : new int[] {-1, 8, Integer.MIN_VALUE, Integer.MAX_VALUE}) {
            Check.fails("property " + p, NoSuchElementException.class, () -> m.has(0, p, 0));
        }
        for (int what : new int[] {-1, 3, Integer.MIN_VALUE, Integer.MAX_VALUE}) {
            Check.fails("what " + what, NoSuchElementException.class, () -> m.has(0, 0, what));
        }
        made();
        Check.end();
    }

    private static void made() {
        TaleMachine m = Tale.begun(0, 0, 0, MAKE, 2, DROP, MAKE, 16, BYTE, 4, PUT_OBJECT, 16, SET, 6,
                BYTE, 3, PUT_OBJECT, 1, SET, 5, END_NIL);
        m.run(9);
        Check.same("of its made parent", had(m, 17, 6), "2:4 of 16");
        Check.same("of its fixed one", had(m, 17, 5), "2:3 of 1");
        Check.same("and the METHOD", had(m, 17, 7), "4:0 of 2");
        m.run(9);
        m.collect();
        Check.fails("gone", NoSuchElementException.class, () -> m.has(17, 6, 0));
    }

    private static String had(TaleMachine m, int o, int p) {
        return m.has(o, p, 0) + ":" + m.has(o, p, 1) + " of " + m.has(o, p, 2);
    }
}
