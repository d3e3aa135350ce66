import java.util.List;

/**
 * Stories that leave machines in every state a run can have, with as much to lose as there can be: frames,
 * values, sayings, a result, points, two different states saved, made objects, and code behind it all.
 * The objects are 0, 1 (of 0), 2 (of 1) and 3; 16 (of 1) and 17 (of 16) are made by the run.
 */
final class Stories implements Instructions {
    private Stories() { }

    private static final int[] INNER = {1, 1, 0, SELF, LOCAL, 0, PUT_TRUE, NOTHING, SAY, SAY, SAY, BYTE, 3, END};
    private static final int[] OUTER = {0, 2, 0,
        BYTE, 1, PUT_OBJECT, 0, SET, 0, SAVE, 0, BYTE, 2, PUT_OBJECT, 0, SET, 0, SAVE, 1,
        POINT, MAKE, 1, PUT_OBJECT, 2, SET, 1, POINT, MAKE, 16, INTO, 0, BYTE, 3, PUT_OBJECT, 0, SET, 0,
        LOCAL, 0, SAY, PUT_NIL, SAY, BYTE, 77, BYTE, 9, PUT_OBJECT, 16, ASK, 1, 2,
        SAY, UNDO, SAY, UNDO, SAY, UNDO, SAY, BYTE, 8, PUT_OBJECT, 3, SET, 0, PUT_OBJECT, 2, END};
    private static final int[] THROWER = {0, 0, 0, BYTE, 5, SAY, SAVE, 1, MAKE, 2, THROW};
    private static final int[] WRONG = {0, 1, 0, BYTE, 5, SAY, SAVE, 0, MAKE, 2, PUT_TRUE, PLUS};

    private static final int OUTER_AT = INNER.length;
    private static final int THROWER_AT = OUTER_AT + OUTER.length;
    private static final int WRONG_AT = THROWER_AT + THROWER.length;

    static final Story NEW = Story.of("new");

    static final Story IDLE = Story.of("idle")
            .then(Call.object(-1, -1, -1), Call.object(0, -1, -1), Call.object(1, -1, -1), Call.object(-1, -1, -1))
            .write(INNER).write(OUTER).write(THROWER).write(WRONG)
            .then(Call.property(1, 2, METHOD, 0), Call.property(1, 7, METHOD, OUTER_AT),
                    Call.property(0, 6, METHOD, THROWER_AT), Call.property(0, 5, METHOD, WRONG_AT),
                    Call.property(3, 3, OBJECT, 1));

    /** Two frames, two points, both slots saved, two sayings; the objects 16 and 17 are there. */
    static final Story UNDER_WAY = IDLE.then(Call.begin(2, 7), Call.run(29)).named("under way");

    static final Story ENDED = UNDER_WAY.then(Call.run(3000)).named("ended");

    static final Story UNCAUGHT = IDLE.then(Call.begin(2, 6), Call.run(3000)).named("uncaught");

    static final Story FAULT = IDLE.then(Call.begin(2, 5), Call.run(3000)).named("fault");

    static final Story STOPPED = UNDER_WAY.then(Call.stop()).named("stopped");

    static final List<Story> OVER = List.of(ENDED, UNCAUGHT, FAULT, STOPPED);

    static final List<Story> NOT_UNDER_WAY = List.of(NEW, IDLE, ENDED, UNCAUGHT, FAULT, STOPPED);

    /** Those with objects. */
    static final List<Story> PEOPLED = List.of(IDLE, UNDER_WAY, ENDED, UNCAUGHT, FAULT, STOPPED);

    static final List<Story> ALL = List.of(NEW, IDLE, UNDER_WAY, ENDED, UNCAUGHT, FAULT, STOPPED);

    /** Numbers that are never right where a small one is asked for. */
    static final int[] FAR = {Integer.MIN_VALUE, Integer.MIN_VALUE + 1, -256, 256, Integer.MAX_VALUE - 1, Integer.MAX_VALUE};

    static int[] farAnd(int... more) {
        return Tale.join(FAR, more);
    }
}
