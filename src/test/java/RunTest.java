import java.util.NoSuchElementException;

/** Promise 6: run's fuel and its answers. */
final class RunTest implements Instructions {
    public static void main(String[] args) {
        fuel();
        mostFuel();
        answers();
        Check.end();
    }

    private static void fuel() {
        TaleMachine m = Tale.begun(0, 0, 0, BYTE, 1, BYTE, 2, BYTE, 3, END);
        for (int none : new int[] {0, -1, Integer.MIN_VALUE}) {
            Check.same("fuel " + none, m.run(none), 0);
            Check.same("nothing was done", m.show(1), 3);
        }
        Check.same("one", m.run(1), 0);
        Check.same("place after one", m.show(1), 5);
        Check.same("two more", m.run(2), 0);
        Check.same("place after three", m.show(1), 9);
        Check.same("values", Tale.stack(m), "2:1 2:2 2:3");
        Check.same("the last one", m.run(1), 1);
        Check.same("the same again", m.run(1), 1);
        Check.same("and without fuel", m.run(-5), 1);
    }

    private static void mostFuel() {
        // A round has five instructions: local 0 grows by one in each.
        TaleMachine m = Tale.begun(0, 1, 0, BYTE, 0, INTO, 0,
                LOCAL, 0, BYTE, 1, PLUS, INTO, 0, JUMP, -9);
        m.run(2);
        Check.same("above 3000", m.run(Integer.MAX_VALUE), 0);
        Check.same("3000 were done", Tale.stack(m), "2:600");
        Check.same("3001", m.run(3001), 0);
        Check.same("3000 more", Tale.stack(m), "2:1200");
        Check.same("2999", m.run(2999), 0);
        Check.same("place before the jump", m.show(1), 14);
    }

    private static void answers() {
        TaleMachine m = Tale.with(
                0, 0, 0, END_NIL,
                0, 0, 0, PUT_OBJECT, 1, THROW,
                0, 0, 0, NOTHING, 99);
        m.property(0, 0, METHOD, 0);
        m.property(0, 1, METHOD, 4);
        m.property(0, 2, METHOD, 10);
        Check.same("none has begun", m.run(1), -1);
        m.begin(0, 1);
        Check.same("goes on", m.run(1), 0);
        Check.same("uncaught", m.run(1), 2);
        Check.same("uncaught again", m.run(1), 2);
        Check.same("result", m.said(-1, 0) + ":" + m.said(-1, 1), "3:1");
        Check.same("no frames", m.show(0), 0);
        m.begin(0, 2);
        Check.same("done before the fault", m.run(1), 0);
        Check.same("a fault", m.run(1), 3);
        Check.same("a fault again", m.run(100), 3);
        Check.same("frames stay", m.show(0) + " at " + m.show(1), "1 at 14");
        Check.fails("no result", NoSuchElementException.class, () -> m.said(-1, 0));
        m.begin(0, 0);
        Check.same("ended", m.run(1), 1);
        Check.same("no frames then", m.show(0), 0);
    }
}
