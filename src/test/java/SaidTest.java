import java.util.NoSuchElementException;

/** Promise 11: said. */
final class SaidTest implements Instructions {
    public static void main(String[] args) {
        TaleMachine m = Tale.begun(0, 0, 0, BYTE, -9, SAY, PUT_OBJECT, 1, SAY, PUT_TRUE, SAY, PUT_METHOD, 0, 5, END);
        Check.fails("nothing said", NoSuchElementException.class, () -> m.said(0, 0));
        m.run(4);
        Check.same("the first", m.said(0, 0) + ":" + m.said(0, 1), "2:-9");
        Check.same("the second", m.said(1, 0) + ":" + m.said(1, 1), "3:1");
        Check.fails("no third", NoSuchElementException.class, () -> m.said(2, 0));
        Check.fails("no result", NoSuchElementException.class, () -> m.said(-1, 0));
        m.run(9);
        Check.same("the third", m.said(2, 0) + ":" + m.said(2, 1), "1:1");
        Check.same("the result", m.said(-1, 0) + ":" + m.said(-1, 1), "4:5");
        for (int k : new int[] {-2, 3, 50, Integer.MIN_VALUE, Integer.MAX_VALUE}) {
            Check.fails("at " + k, NoSuchElementException.class, () -> m.said(k, 0));
        }
        for (int what : new int[] {-1, 2, Integer.MIN_VALUE, Integer.MAX_VALUE}) {
            Check.fails("what " + what, NoSuchElementException.class, () -> m.said(0, what));
            Check.fails("result, what " + what, NoSuchElementException.class, () -> m.said(-1, what));
        }
        fifty();
        uncaught();
        Check.end();
    }

    private static void fifty() {
        TaleMachine m = Tale.begun(0, 1, 0, BYTE, 0, INTO, 0, LOCAL, 0, AGAIN, SAY, BYTE, 1, PLUS, INTO, 0, JUMP, -11);
        Check.same("a fault at the 51st", m.run(3000), 3);
        for (int k = 0; k < 50; k++) {
            Check.same("said " + k, m.said(k, 1), k);
        }
        Check.fails("no 51st", NoSuchElementException.class, () -> m.said(50, 1));
    }

    private static void uncaught() {
        TaleMachine m = Tale.begun(0, 0, 0, PUT_TRUE, SAY, PUT_OBJECT, 1, THROW);
        m.run(9);
        Check.same("what was thrown", m.said(-1, 0) + ":" + m.said(-1, 1), "3:1");
        Check.same("what was said", m.said(0, 0), 1);
    }
}
