import java.util.Arrays;
import java.util.List;

/**
 * An instruction that can be done: in a method at address 0 without arguments, with one local, and with SELF.
 *
 * @param before instructions that each put one of the values which must be there to be taken
 * @param growth by how many values the stack is higher afterwards
 * @param due    what run answers when it is done
 */
record Sample(int[][] before, int[] bytes, int growth, int due) implements Instructions {
    private static final int[][] NOTHING_NEEDED = {};
    private static final int[][] A_VALUE = {{PUT_NIL}};
    private static final int[][] AN_OBJECT = {{PUT_OBJECT, 0}};
    private static final int[][] NUMBERS = {{BYTE, 6}, {BYTE, 3}};
    private static final int[][] VALUE_AND_OBJECT = {{PUT_NIL}, {PUT_OBJECT, 0}};

    private static Sample of(int[][] before, int growth, int... bytes) {
        return new Sample(before, bytes, growth, 0);
    }

    private static Sample last(int[][] before, int due, int... bytes) {
        return new Sample(before, bytes, -before.length, due);
    }

    /** One for each of the instructions 0 .. 34, in their order. */
    static final List<Sample> ALL = List.of(
            of(NOTHING_NEEDED, 0, NOTHING), of(NOTHING_NEEDED, 1, BYTE, 5), of(NOTHING_NEEDED, 1, WORD, 0, 0, 0, 5),
            of(NOTHING_NEEDED, 1, PUT_NIL), of(NOTHING_NEEDED, 1, PUT_TRUE), of(NOTHING_NEEDED, 1, PUT_OBJECT, 0),
            of(NOTHING_NEEDED, 1, PUT_METHOD, 0, 0), of(NOTHING_NEEDED, 1, LOCAL, 0), of(A_VALUE, -1, INTO, 0),
            of(NOTHING_NEEDED, 1, SELF), of(A_VALUE, 1, AGAIN), of(A_VALUE, -1, DROP),
            of(NUMBERS, -1, PLUS), of(NUMBERS, -1, MINUS), of(NUMBERS, -1, TIMES), of(NUMBERS, -1, OVER),
            of(NUMBERS, -1, LESS), of(NUMBERS, -1, LIKE), of(A_VALUE, 0, NOT),
            of(NOTHING_NEEDED, 0, JUMP, 0), of(A_VALUE, -1, UNLESS, 0),
            of(AN_OBJECT, 0, ASK, 0, 6), of(VALUE_AND_OBJECT, -2, SET, 6), of(NOTHING_NEEDED, 1, INHERITED, 0, 6),
            of(NOTHING_NEEDED, 1, CALL, 0, 0, 0),
            last(A_VALUE, 1, END), last(NOTHING_NEEDED, 1, END_NIL), last(AN_OBJECT, 2, THROW),
            of(NOTHING_NEEDED, 1, MAKE, 0), of(A_VALUE, 0, TEST_OF, 0), of(A_VALUE, -1, SAY),
            of(NOTHING_NEEDED, 0, POINT), of(NOTHING_NEEDED, 1, UNDO), of(NOTHING_NEEDED, 0, SAVE, 0),
            of(NOTHING_NEEDED, 1, LOAD, 0));

    int instruction() {
        return bytes[0];
    }

    int needs() {
        return before.length;
    }

    /** Code that puts the uppermost n of the values it needs. */
    int[] puts(int n) {
        return Tale.join(Arrays.copyOfRange(before, before.length - n, before.length));
    }
}
