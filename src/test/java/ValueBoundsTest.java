/** Terms: the kinds of values and their ints, what is FALSE, bytes and numbers in code, and calculating. */
final class ValueBoundsTest implements Instructions {
    private static final int MIN = Integer.MIN_VALUE;
    private static final int MAX = Integer.MAX_VALUE;
    private static final int[] NUMBERS = {
        MIN, MIN + 1, -65536, -46341, -256, -129, -128, -2, -1, 0, 1, 2, 3, 127, 128, 255, 256, 46341, 65536, MAX - 1, MAX};

    public static void main(String[] args) {
        kindsFromOutside();
        nilAndTrueOfInstructions();
        falseOnes();
        bytes();
        words();
        addresses();
        calculating();
        less();
        overNothing();
        likes();
        onlyObjectsAreOf();
        Check.end();
    }

    private static String given(int kind, int value) {
        TaleMachine m = Tale.with();
        m.property(1, 4, kind, value);
        return Portrait.had(m, 2, 4);
    }

    /** "0 NIL (0), 1 TRUE (1), 2 NUMBER (any), 3 OBJECT (its number), 4 METHOD (an address)". */
    private static void kindsFromOutside() {
        for (int value : NUMBERS) {
            Check.same("NIL with " + value, given(NIL, value), "0:0@1");
            Check.same("TRUE with " + value, given(TRUE, value), "1:1@1");
            Check.same("NUMBER " + value, given(NUMBER, value), "2:" + value + "@1");
            Check.same("none, with " + value, given(-1, value), "-");
        }
        for (int o = 0; o <= 2; o++) {
            Check.same("OBJECT " + o, given(OBJECT, o), "3:" + o + "@1");
        }
        for (int address : new int[] {0, 1, 255, 256, 298, 299}) {
            Check.same("METHOD " + address, given(METHOD, address), "4:" + address + "@1");
        }
    }

    /** Runs the body in a method with one local, without arguments; its last value is the result. */
    private static String result(int... body) {
        return Tale.told(Tale.join(Tale.bytes(0, 1, 0), body, Tale.bytes(END)));
    }

    private static final String IS_NIL = "1 said result 0:0";
    private static final String IS_TRUE = "1 said result 1:1";

    /** Wherever NIL or TRUE is put, their ints are 0 and 1, whatever was there before. */
    private static void nilAndTrueOfInstructions() {
        Check.same("3", result(PUT_NIL), IS_NIL);
        Check.same("4", result(PUT_TRUE), IS_TRUE);
        Check.same("a local at first", result(LOCAL, 0), IS_NIL);
        Check.same("LESS", result(BYTE, 5, BYTE, 6, LESS), IS_TRUE);
        Check.same("not LESS", result(BYTE, 6, BYTE, 5, LESS), IS_NIL);
        Check.same("LIKE", result(BYTE, 5, BYTE, 5, LIKE), IS_TRUE);
        Check.same("not LIKE", result(BYTE, 5, BYTE, 6, LIKE), IS_NIL);
        Check.same("NOT of NUMBER 5", result(BYTE, 5, NOT), IS_NIL);
        Check.same("NOT of NUMBER 0", result(BYTE, 0, NOT), IS_TRUE);
        Check.same("OBJECT 2 is of 1", result(PUT_OBJECT, 2, TEST_OF, 1), IS_TRUE);
        Check.same("OBJECT 1 is not of 2", result(PUT_OBJECT, 1, TEST_OF, 2), IS_NIL);
        Check.same("undone", result(BYTE, 9, DROP, POINT, UNDO), IS_TRUE);
        Check.same("not undone", result(BYTE, 9, DROP, UNDO), IS_NIL);
        Check.same("brought back", result(BYTE, 9, DROP, SAVE, 0, LOAD, 0), IS_TRUE);
        Check.same("not brought back", result(BYTE, 9, DROP, LOAD, 0), IS_NIL);
        Check.same("asked for nothing", result(PUT_OBJECT, 2, ASK, 0, 0), IS_NIL);
        Check.same("nothing inherited", result(BYTE, 9, DROP, INHERITED, 0, 7), IS_NIL);
        Check.same("26", Tale.told(0, 0, 0, BYTE, 9, END_NIL), IS_NIL);
        Check.same("no SELF, in a frame where 9 lay", Tale.told(
                0, 0, 0, BYTE, 9, DROP, CALL, 0, 0, 11, END, 0, 0, 0, SELF, END), IS_NIL);
        Check.same("a local where 9 and 8 lay", Tale.told(
                0, 0, 0, BYTE, 9, BYTE, 8, DROP, DROP, CALL, 0, 0, 14, END, 0, 2, 0, LOCAL, 1, END), IS_NIL);
    }

    /** "FALSE are NIL and NUMBER 0": for NOT (18) and for going on if FALSE (20). */
    private static void falseOnes() {
        isFalse("NIL", true, PUT_NIL);
        isFalse("NUMBER 0", true, BYTE, 0);
        isFalse("NUMBER 0 of four bytes", true, WORD, 0, 0, 0, 0);
        isFalse("TRUE", false, PUT_TRUE);
        isFalse("NUMBER 1", false, BYTE, 1);
        isFalse("NUMBER -1", false, BYTE, -1);
        isFalse("NUMBER MIN", false, WORD, 128, 0, 0, 0);
        isFalse("NUMBER 256", false, WORD, 0, 0, 1, 0);
        isFalse("OBJECT 0", false, PUT_OBJECT, 0);
        isFalse("OBJECT 2", false, PUT_OBJECT, 2);
        isFalse("METHOD 0", false, PUT_METHOD, 0, 0);
        isFalse("METHOD 1", false, PUT_METHOD, 0, 1);
    }

    private static void isFalse(String what, boolean due, int... put) {
        Check.same("NOT " + what, result(Tale.join(put, Tale.bytes(NOT))), due ? IS_TRUE : IS_NIL);
        Check.same("going on if " + what, result(Tale.join(put, Tale.bytes(UNLESS, 3, BYTE, 1, END, BYTE, 2))),
                "1 said result 2:" + (due ? 2 : 1));
    }

    /** "1 b: puts NUMBER b (a byte, -128 .. 127)": every byte. */
    private static void bytes() {
        for (int b = -128; b <= 127; b++) {
            Check.same("byte " + b, result(BYTE, b), "1 said result 2:" + b);
        }
    }

    /** "2 and four bytes, the highest first: puts a NUMBER (any)". */
    private static void words() {
        for (int number : NUMBERS) {
            Check.same("number " + number, result(word(number)), "1 said result 2:" + number);
        }
        for (int place = 0; place < 4; place++) {
            int number = 0x80 << 8 * place;
            Check.same("byte 128 at " + place, result(word(number)), "1 said result 2:" + number);
        }
    }

    private static int[] word(int number) {
        return Tale.bytes(WORD, number >>> 24, number >>> 16, number >>> 8, number);
    }

    /** "an address has two bytes, the higher one first". */
    private static void addresses() {
        for (int address : new int[] {0, 1, 127, 128, 255, 256, 257, 299, 300, 32767, 32768, 65535}) {
            Check.same("METHOD " + address, result(PUT_METHOD, address >> 8, address), "1 said result 4:" + address);
        }
    }

    private static String calculated(int a, int b, int operation) {
        return result(Tale.join(word(a), word(b), Tale.bytes(operation)));
    }

    /** "take two NUMBERS, put the NUMBER (wrapping)"; "OVER (toward 0)". */
    private static void calculating() {
        for (int a : NUMBERS) {
            for (int b : NUMBERS) {
                Check.same(a + " + " + b, calculated(a, b, PLUS), "1 said result 2:" + (int) ((long) a + b));
                Check.same(a + " - " + b, calculated(a, b, MINUS), "1 said result 2:" + (int) ((long) a - b));
                Check.same(a + " * " + b, calculated(a, b, TIMES), "1 said result 2:" + (int) ((long) a * b));
                if (b != 0) {
                    Check.same(a + " / " + b, calculated(a, b, OVER), "1 said result 2:" + (int) toward0(a, b));
                }
            }
        }
        Check.same("7 over -2", calculated(7, -2, OVER), "1 said result 2:-3");
        Check.same("-7 over 2", calculated(-7, 2, OVER), "1 said result 2:-3");
        Check.same("-7 over -2", calculated(-7, -2, OVER), "1 said result 2:3");
        Check.same("MIN over -1 wraps", calculated(MIN, -1, OVER), "1 said result 2:" + MIN);
        Check.same("MAX plus 1 wraps", calculated(MAX, 1, PLUS), "1 said result 2:" + MIN);
        Check.same("MIN minus 1 wraps", calculated(MIN, 1, MINUS), "1 said result 2:" + MAX);
        Check.same("MIN times -1 wraps", calculated(MIN, -1, TIMES), "1 said result 2:" + MIN);
    }

    private static long toward0(long a, long b) {
        long size = Math.abs(a) / Math.abs(b);
        return a < 0 == b < 0 ? size : -size;
    }

    /** "for LESS TRUE or NIL": just below, the same, just above, and where a difference would wrap. */
    private static void less() {
        for (int a : NUMBERS) {
            for (int b : NUMBERS) {
                Check.same(a + " < " + b, calculated(a, b, LESS), (long) a < (long) b ? IS_TRUE : IS_NIL);
            }
        }
    }

    /** "OVER 0 throws OBJECT 0": uncaught, caught by a handler of 0, and by none of another object. */
    private static void overNothing() {
        for (int a : new int[] {MIN, -1, 0, 1, MAX}) {
            Check.same(a + " over 0", calculated(a, 0, OVER), "2 said result 3:0");
        }
        for (int b : new int[] {-1, 1}) {
            Check.same("0 over " + b, calculated(0, b, OVER), "1 said result 2:0");
        }
        TaleMachine m = Tale.begun(0, 1, 1, 4, 4, 0, 6, BYTE, 9, BYTE, 0, OVER, 0, NOTHING, END);
        Check.same("it goes on at GOAL", m.run(3) + " at " + m.show(1), "0 at 13");
        Check.same("both numbers are gone, OBJECT 0 is put", Tale.stack(m), "0:0 3:0");
        Check.same("a handler of 1 does not count", Tale.told(
                0, 1, 1, 4, 4, 1, 6, BYTE, 9, BYTE, 0, OVER, 0, NOTHING, END), "2 said result 3:0");
        TaleMachine with1 = Tale.with(0, 0, 0, BYTE, 1, BYTE, 0, OVER);
        with1.property(1, 0, METHOD, 0);
        with1.begin(1, 0);
        Check.same("it is OBJECT 0, not SELF", Tale.rest(with1), "2 said result 3:0");
        TaleMachine alone = new TaleMachine();
        alone.object(-1, -1, -1);
        Tale.write(alone, 0, 0, 0, BYTE, 1, BYTE, 0, OVER);
        alone.property(0, 0, METHOD, 0);
        alone.begin(0, 0);
        Check.same("with object 0 alone", Tale.rest(alone), "2 said result 3:0");
    }

    /** LIKE: the same kind and the same int, and nothing less. */
    private static void likes() {
        int[][] puts = {
            {PUT_NIL}, {PUT_TRUE}, {BYTE, 0}, {BYTE, 1}, {BYTE, -1}, word(MIN), word(256), {PUT_OBJECT, 0}, {PUT_OBJECT, 1},
            {PUT_OBJECT, 2}, {PUT_METHOD, 0, 0}, {PUT_METHOD, 0, 1}, {PUT_METHOD, 1, 0}, {PUT_METHOD, 1, 1}};
        for (int a = 0; a < puts.length; a++) {
            for (int b = 0; b < puts.length; b++) {
                Check.same("like " + a + " and " + b, result(Tale.join(puts[a], puts[b], Tale.bytes(LIKE))),
                        a == b ? IS_TRUE : IS_NIL);
            }
        }
    }

    /** 29: "TRUE if it is an OBJECT that is of o, otherwise NIL": no other kind, though its int is an object's number. */
    private static void onlyObjectsAreOf() {
        for (int o = 0; o <= 2; o++) {
            for (int number = 0; number <= 2; number++) {
                Check.same("OBJECT", result(PUT_OBJECT, number, TEST_OF, o), number >= o ? IS_TRUE : IS_NIL);
                Check.same("NUMBER", result(BYTE, number, TEST_OF, o), IS_NIL);
                Check.same("METHOD", result(PUT_METHOD, 0, number, TEST_OF, o), IS_NIL);
            }
            Check.same("NIL", result(PUT_NIL, TEST_OF, o), IS_NIL);
            Check.same("TRUE", result(PUT_TRUE, TEST_OF, o), IS_NIL);
        }
    }
}
