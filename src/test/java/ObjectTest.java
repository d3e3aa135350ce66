import java.util.NoSuchElementException;

/** Promise 3: object. */
final class ObjectTest implements Instructions {
    public static void main(String[] args) {
        parents();
        wrongParents();
        sixteen();
        whileARun();
        savedIsGone();
        lines();
        Check.end();
    }

    private static void parents() {
        TaleMachine m = new TaleMachine();
        Check.same("none", m.object(-1, 99, -7), 0);
        Check.same("one", m.object(0, -1, 99), 1);
        Check.same("two", m.object(1, 0, -1), 2);
        Check.same("three", m.object(0, 1, 2), 3);
        Check.same("twice the same", m.object(3, 3, 3), 4);
        Check.yes("1 of 0", m.isOf(1, 0));
        Check.no("those behind -1 are none", m.isOf(0, 1));
        Check.yes("4 of 2", m.isOf(4, 2));
        Check.same("objects", m.show(4), 5);
    }

    private static void wrongParents() {
        TaleMachine m = Tale.with(0, 0, 0, MAKE, 0, END);
        m.property(0, 0, METHOD, 0);
        m.begin(0, 0);
        m.run(9);
        Check.yes("16 is there", m.isOf(16, 0));
        for (int wrong : new int[] {3, 15, 16, 17, 31, 32, -2, Integer.MIN_VALUE, Integer.MAX_VALUE}) {
            Check.fails("first " + wrong, IllegalArgumentException.class, () -> m.object(wrong, -1, -1));
            Check.fails("second " + wrong, IllegalArgumentException.class, () -> m.object(0, wrong, -1));
            Check.fails("third " + wrong, IllegalArgumentException.class, () -> m.object(0, 1, wrong));
        }
        Check.same("nothing was made", m.show(4), 4);
        Check.same("the next number", m.object(2, -1, -1), 3);
    }

    private static void sixteen() {
        TaleMachine m = new TaleMachine();
        for (int o = 0; o < 16; o++) {
            Check.same("number", m.object(o - 1, -1, -1), o);
        }
        Check.fails("a 17th", IllegalStateException.class, () -> m.object(-1, -1, -1));
        Check.fails("a 17th with a wrong parent", IllegalArgumentException.class, () -> m.object(16, -1, -1));
        Check.same("objects", m.show(4), 16);
        Check.yes("a long line", m.isOf(15, 0));
    }

    private static void whileARun() {
        TaleMachine m = Tale.begun(0, 0, 0, END_NIL);
        Check.fails("run", IllegalStateException.class, () -> m.object(-1, -1, -1));
        Check.fails("run, wrong parent", IllegalArgumentException.class, () -> m.object(9, -1, -1));
        m.run(9);
        Check.same("after it", m.object(-1, -1, -1), 3);
    }

    private static void savedIsGone() {
        TaleMachine m = Tale.with(
                0, 0, 0, SAVE, 0, SAVE, 1, END_NIL,
                0, 0, 0, LOAD, 0, SAY, LOAD, 1, SAY, END_NIL);
        m.property(0, 0, METHOD, 0);
        m.property(0, 1, METHOD, 8);
        m.begin(0, 0);
        m.run(9);
        Check.fails("wrong", IllegalArgumentException.class, () -> m.object(7, -1, -1));
        m.begin(0, 1);
        Check.same("a refused object changes nothing", Tale.rest(m), "1 said 1:1 1:1 result 0:0");
        m.object(-1, -1, -1);
        m.begin(0, 1);
        Check.same("nothing is saved any more", Tale.rest(m), "1 said 0:0 0:0 result 0:0");
    }

    /** Finds the line of an object by taking own values away from the front, one by one. */
    private static String line(TaleMachine m, int o) {
        for (int at = 0; at < m.show(4); at++) {
            m.property(at, 5, NUMBER, at);
        }
        StringBuilder text = new StringBuilder();
        while (true) {
            try {
                int holder = m.has(o, 5, 2);
                text.append(holder).append(' ');
                m.property(holder, 5, -1, 0);
            } catch (NoSuchElementException e) {
                return text.toString().trim();
            }
        }
    }

    private static void lines() {
        TaleMachine m = new TaleMachine();
        m.object(-1, -1, -1);
        m.object(0, -1, -1);
        m.object(0, -1, -1);
        m.object(1, 2, -1);
        m.object(2, 1, -1);
        m.object(3, 4, -1);
        m.object(0, 1, -1);
        m.object(1, 1, 2);
        m.object(3, 1, 0);
        m.object(-1, -1, -1);
        m.object(9, 8, 9);
        Check.same("no parents", line(m, 0), "0");
        Check.same("one parent", line(m, 1), "1 0");
        Check.same("the last time of 0 counts", line(m, 3), "3 1 2 0");
        Check.same("in the parents' order", line(m, 4), "4 2 1 0");
        Check.same("2 and 1 as in the later parent's line", line(m, 5), "5 3 4 2 1 0");
        Check.same("a parent that is also a parent's parent", line(m, 6), "6 1 0");
        Check.same("the same parent twice", line(m, 7), "7 1 2 0");
        Check.same("parents in each other's lines", line(m, 8), "8 3 2 1 0");
        Check.same("first and last the same", line(m, 10), "10 8 3 2 1 0 9");
    }
}
