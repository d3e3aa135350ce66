import java.util.NoSuchElementException;

/** Promise 9: stack. */
final class StackTest implements Instructions {
    public static void main(String[] args) {
        TaleMachine m = Tale.begun(0, 1, 0, BYTE, -4, PUT_OBJECT, 2, CALL, 1, 0, 13, END_NIL, 0,
                1, 1, 0, PUT_METHOD, 1, 1, PUT_TRUE, END_NIL);
        Check.same("a local", m.stack(0, 0) + ":" + m.stack(0, 1), "0:0");
        Check.fails("no value yet", NoSuchElementException.class, () -> m.stack(1, 0));
        m.run(5);
        int[] kinds = {NIL, NUMBER, OBJECT, NIL, METHOD, TRUE};
        int[] ints = {0, -4, 2, 0, 257, 1};
        for (int k = 0; k < kinds.length; k++) {
            Check.same("kind at " + k, m.stack(k, 0), kinds[k]);
            Check.same("int at " + k, m.stack(k, 1), ints[k]);
        }
        for (int k : new int[] {-1, 6, 40, Integer.MIN_VALUE, Integer.MAX_VALUE}) {
            Check.fails("at " + k, NoSuchElementException.class, () -> m.stack(k, 0));
        }
        for (int what : new int[] {-1, 2, Integer.MIN_VALUE, Integer.MAX_VALUE}) {
            Check.fails("what " + what, NoSuchElementException.class, () -> m.stack(0, what));
        }
        m.run(1);
        Check.same("the frame's values go", Tale.stack(m), "0:0 2:-4 0:0");
        m.run(1);
        Check.fails("empty", NoSuchElementException.class, () -> m.stack(0, 0));
        full();
        Check.end();
    }

    private static void full() {
        TaleMachine m = Tale.begun(Tale.join(Tale.bytes(0, 0, 0), Tale.times(41, BYTE, 5)));
        m.run(100);
        Check.same("the 40th value", m.stack(39, 1), 5);
        Check.fails("no 41st", NoSuchElementException.class, () -> m.stack(40, 1));
    }
}
