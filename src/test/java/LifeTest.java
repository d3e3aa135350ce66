/** "An object is used for at most 512 calls after it has been made": up to the last of them it answers as due. */
final class LifeTest implements Instructions {
    private static final int CALLS = 512;

    public static void main(String[] args) {
        runs();
        throwing();
        manyRuns();
        Check.end();
    }

    /** As many calls of run as there can be, each with as much fuel as there can be. */
    private static void runs() {
        TaleMachine m = Tale.begun(0, 1, 0, BYTE, 0, INTO, 0, LOCAL, 0, BYTE, 1, PLUS, INTO, 0, JUMP, -9);
        int made = 3 + 4 + 2;
        m.run(2);
        made++;
        int rounds = 0;
        while (made < CALLS - 1) {
            Check.same("run", m.run(3000), 0);
            rounds += 600;
            made++;
        }
        Check.same("the last call", m.stack(0, 1), rounds);
    }

    private static void throwing() {
        TaleMachine m = new TaleMachine();
        for (int i = 0; i < CALLS - 1; i++) {
            Check.same("refused", Call.object(i, -1, -1).on(m), "IllegalArgumentException");
        }
        Check.same("the last call", m.object(-1, -1, -1), 0);
    }

    /** Run after run, each with points, states saved, made objects and frames, and a collect behind it. */
    private static void manyRuns() {
        TaleMachine m = Tale.with(0, 1, 0, MAKE, 2, SAVE, 0, POINT, MAKE, 16, SAY, POINT, CALL, 1, 0, 21, SAY,
                LOAD, 0, SAY, END_NIL, 1, 2, 0, UNDO, SAY, LOCAL, 0, END);
        m.property(2, 7, METHOD, 0);
        int made = 3 + 8 + 1;
        while (made + 6 <= CALLS) {
            m.begin(2, 7);
            Check.same("run", m.run(3000), 1);
            Check.same("said", m.show(5) + " " + m.said(2, 1), "4 16");
            Check.same("goes", m.collect(), 1);
            Check.same("objects", m.show(4), 3);
            made += 6;
        }
    }
}
