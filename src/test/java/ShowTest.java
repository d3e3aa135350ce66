import java.util.NoSuchElementException;

/** Promise 10: show. */
final class ShowTest implements Instructions {
    public static void main(String[] args) {
        TaleMachine m = Tale.with(0, 0, 0, POINT, MAKE, 1, SAY, PUT_TRUE, SAY, CALL, 0, 0, 14, END,
                0, 0, 0, POINT, PUT_OBJECT, 1, ASK, 0, 1, END, 0, 0, 0, END_NIL);
        m.property(0, 0, METHOD, 0);
        m.property(0, 1, METHOD, 24);
        Check.same("before", shown(m), "0 - - 0 3 0");
        m.begin(2, 0);
        Check.same("begun", shown(m), "1 3 2 0 3 0");
        m.run(1);
        Check.same("a point", shown(m), "1 4 2 1 3 0");
        m.run(4);
        Check.same("made and said", shown(m), "1 9 2 1 4 2");
        m.run(1);
        Check.same("called", shown(m), "2 17 -1 1 4 2");
        m.run(3);
        Check.same("asked", shown(m), "3 27 1 2 4 2");
        m.run(1);
        Check.same("ended", shown(m), "2 23 -1 2 4 2");
        m.collect();
        Check.same("collected", shown(m), "2 23 -1 2 3 2");
        m.run(9);
        Check.same("over", shown(m), "0 - - 0 3 2");
        for (int what : new int[] {-1, 6, 7, Integer.MIN_VALUE, Integer.MAX_VALUE}) {
            Check.fails("what " + what, NoSuchElementException.class, () -> m.show(what));
        }
        Check.end();
    }

    private static String shown(TaleMachine m) {
        StringBuilder text = new StringBuilder();
        for (int what = 0; what <= 5; what++) {
            try {
                text.append(m.show(what)).append(' ');
            } catch (NoSuchElementException e) {
                text.append("- ");
            }
        }
        return text.toString().trim();
    }
}
