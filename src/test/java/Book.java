/** Methods written one behind the other, so that a test with several of them need not count addresses. */
final class Book implements Instructions {
    private static final int[][] NO_HANDLERS = {};

    private int[] code = {};

    /** Appends a method without handlers; answers its address. */
    int method(int arguments, int locals, int... body) {
        return handling(arguments, locals, NO_HANDLERS, body);
    }

    /** The same with handlers, each of them FROM, TO, an object, GOAL. */
    int handling(int arguments, int locals, int[][] handlers, int... body) {
        int address = code.length;
        code = Tale.join(code, Tale.bytes(arguments, locals, handlers.length), Tale.join(handlers), body);
        return address;
    }

    /** Where the next method will stand. */
    int next() {
        return code.length;
    }

    int[] code() {
        return code.clone();
    }

    /** Code that sets an object's own value for a property to a NUMBER: three instructions. */
    static int[] give(int o, int p, int number) {
        return Tale.bytes(BYTE, number, PUT_OBJECT, o, SET, p);
    }
}
