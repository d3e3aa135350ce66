/** Promise 6: what single instructions do (0 to 20, 22, 28 to 30). */
final class InstructionTest implements Instructions {
    public static void main(String[] args) {
        puts();
        locals();
        numbers();
        divisions();
        truths();
        jumps();
        objects();
        sayings();
        Check.end();
    }

    private static String stackAfter(int instructions, int... bytes) {
        TaleMachine m = Tale.begun(bytes);
        Check.same("goes on", m.run(instructions), 0);
        return Tale.stack(m);
    }

    private static void puts() {
        Check.same("nothing", stackAfter(1, 0, 0, 0, NOTHING), "");
        Check.same("bytes", stackAfter(4, 0, 0, 0, BYTE, 0, BYTE, 127, BYTE, 128, BYTE, 255), "2:0 2:127 2:-128 2:-1");
        Check.same("numbers", stackAfter(2, 0, 0, 0, WORD, 1, 2, 3, 4, WORD, 255, 255, 255, 254),
                "2:" + 0x01020304 + " 2:-2");
        Check.same("NIL, TRUE", stackAfter(2, 0, 0, 0, PUT_NIL, PUT_TRUE), "0:0 1:1");
        Check.same("object", stackAfter(1, 0, 0, 0, PUT_OBJECT, 2), "3:2");
        Check.same("method", stackAfter(2, 0, 0, 0, PUT_METHOD, 1, 2, PUT_METHOD, 0, 200), "4:258 4:200");
        Check.same("self", stackAfter(1, 0, 0, 0, SELF), "3:2");
        Check.same("again, away", stackAfter(3, 0, 0, 0, BYTE, 4, AGAIN, AGAIN), "2:4 2:4 2:4");
        Check.same("taken", stackAfter(3, 0, 0, 0, BYTE, 4, PUT_TRUE, DROP), "2:4");
    }

    private static void locals() {
        Check.same("NIL at first", stackAfter(1, 0, 3, 0, LOCAL, 2), "0:0 0:0 0:0 0:0");
        Check.same("into and out of", stackAfter(3, 0, 2, 0, BYTE, 9, INTO, 1, LOCAL, 1), "0:0 2:9 2:9");
    }

    private static String calculated(int a, int b, int operation) {
        return Tale.told(0, 0, 0,
                WORD, a >>> 24, a >>> 16, a >>> 8, a,
                WORD, b >>> 24, b >>> 16, b >>> 8, b, operation, END);
    }

    private static void numbers() {
        Check.same("plus", calculated(7, -9, PLUS), "1 said result 2:-2");
        Check.same("plus wraps", calculated(Integer.MAX_VALUE, 1, PLUS), "1 said result 2:-2147483648");
        Check.same("minus", calculated(7, 9, MINUS), "1 said result 2:-2");
        Check.same("minus wraps", calculated(Integer.MIN_VALUE, 1, MINUS), "1 said result 2:2147483647");
        Check.same("times", calculated(-7, 6, TIMES), "1 said result 2:-42");
        Check.same("times wraps", calculated(65536, 65537, TIMES), "1 said result 2:65536");
        Check.same("less", calculated(-1, 0, LESS), "1 said result 1:1");
        Check.same("not less", calculated(0, 0, LESS), "1 said result 0:0");
        Check.same("greater", calculated(Integer.MAX_VALUE, Integer.MIN_VALUE, LESS), "1 said result 0:0");
    }

    private static void divisions() {
        Check.same("over", calculated(42, 5, OVER), "1 said result 2:8");
        Check.same("toward 0", calculated(-7, 2, OVER), "1 said result 2:-3");
        Check.same("toward 0 too", calculated(7, -2, OVER), "1 said result 2:-3");
        Check.same("wrapping", calculated(Integer.MIN_VALUE, -1, OVER), "1 said result 2:-2147483648");
        Check.same("over 0", calculated(5, 0, OVER), "2 said result 3:0");
        Check.same("0 over 0", calculated(0, 0, OVER), "2 said result 3:0");
    }

    private static void truths() {
        Check.same("like", Tale.told(0, 0, 0, BYTE, 3, BYTE, 3, LIKE, SAY, PUT_NIL, PUT_NIL, LIKE, SAY,
                PUT_OBJECT, 1, PUT_OBJECT, 1, LIKE, SAY, PUT_TRUE, PUT_TRUE, LIKE, END), "1 said 1:1 1:1 1:1 result 1:1");
        Check.same("not like", Tale.told(0, 0, 0, BYTE, 3, BYTE, 4, LIKE, SAY, PUT_NIL, BYTE, 0, LIKE, SAY,
                PUT_OBJECT, 1, BYTE, 1, LIKE, SAY, PUT_TRUE, BYTE, 1, LIKE, SAY,
                PUT_METHOD, 0, 1, PUT_OBJECT, 1, LIKE, END), "1 said 0:0 0:0 0:0 0:0 result 0:0");
        Check.same("not", Tale.told(0, 0, 0, PUT_NIL, NOT, SAY, BYTE, 0, NOT, SAY, PUT_TRUE, NOT, SAY,
                BYTE, 1, NOT, SAY, PUT_OBJECT, 0, NOT, SAY, PUT_METHOD, 0, 0, NOT, END),
                "1 said 1:1 1:1 0:0 0:0 0:0 result 0:0");
    }

    private static void jumps() {
        Check.same("on", Tale.told(0, 0, 0, JUMP, 2, BYTE, 1, BYTE, 2, END), "1 said result 2:2");
        Check.same("on by 0", Tale.told(0, 0, 0, JUMP, 0, BYTE, 2, END), "1 said result 2:2");
        Check.same("back", Tale.told(0, 0, 0, JUMP, 3, BYTE, 7, END, JUMP, -5), "1 said result 2:7");
        Check.same("if FALSE: NIL", Tale.told(0, 0, 0, PUT_NIL, UNLESS, 1, END_NIL, BYTE, 2, END), "1 said result 2:2");
        Check.same("if FALSE: 0", Tale.told(0, 0, 0, BYTE, 0, UNLESS, 1, END_NIL, BYTE, 2, END), "1 said result 2:2");
        Check.same("if FALSE: OBJECT 0", Tale.told(0, 0, 0, PUT_OBJECT, 0, UNLESS, 1, END_NIL, BYTE, 2, END),
                "1 said result 0:0");
        Check.same("if FALSE: back", Tale.told(0, 0, 0, JUMP, 3, BYTE, 7, END, PUT_NIL, UNLESS, -6), "1 said result 2:7");
        Check.same("the value is taken", stackAfter(3, 0, 0, 0, BYTE, 5, PUT_TRUE, UNLESS, 9), "2:5");
        TaleMachine m = Tale.begun(0, 0, 0, JUMP, -128);
        Check.same("the jump is done", m.run(1), 0);
        Check.same("to a place before the code", m.show(1), -123);
        Check.same("which is a fault", m.run(1) + " at " + m.show(1), "3 at -123");
    }

    private static void objects() {
        TaleMachine m = Tale.begun(0, 0, 0, BYTE, 9, PUT_OBJECT, 1, SET, 4, MAKE, 2, MAKE, 16, MAKE, 17, END);
        m.run(3);
        Check.same("its own value", m.has(2, 4, 1) + " of " + m.has(2, 4, 2), "9 of 1");
        Check.same("the stack", Tale.stack(m), "");
        m.run(3);
        Check.same("made objects", Tale.stack(m), "3:16 3:17 3:18");
        Check.yes("of its parent", m.isOf(16, 2) && m.isOf(16, 0) && m.isOf(18, 16) && m.isOf(18, 0));
        Check.same("a line through made ones", m.has(18, 4, 2), 1);
        Check.same("is of", Tale.told(0, 0, 0, PUT_OBJECT, 2, TEST_OF, 0, SAY, PUT_OBJECT, 0, TEST_OF, 2, SAY,
                PUT_OBJECT, 1, TEST_OF, 1, SAY, BYTE, 2, TEST_OF, 2, SAY, PUT_NIL, TEST_OF, 0, END),
                "1 said 1:1 0:0 1:1 0:0 result 0:0");
        lowestFreeNumber();
    }

    private static void lowestFreeNumber() {
        TaleMachine m = Tale.begun(0, 1, 0, BYTE, 5, MAKE, 0, SET, 0, BYTE, 6, PUT_OBJECT, 16, SET, 6,
                MAKE, 1, INTO, 0, MAKE, 0, NOTHING, END);
        m.run(6);
        Check.same("16 has own values", m.has(16, 0, 1) + " " + m.has(16, 6, 1), "5 6");
        m.run(2);
        Check.same("16 goes", m.collect(), 1);
        m.run(1);
        Check.same("and its number is taken again", Tale.stack(m), "3:17 3:16");
        Check.same("without own values", hasAny(m, 16), false);
    }

    private static boolean hasAny(TaleMachine m, int o) {
        for (int p = 0; p < 7; p++) {
            try {
                m.has(o, p, 0);
                return true;
            } catch (java.util.NoSuchElementException e) {
                continue;
            }
        }
        return false;
    }

    private static void sayings() {
        Check.same("all kinds", Tale.told(0, 0, 0, PUT_NIL, SAY, PUT_TRUE, SAY, BYTE, 7, SAY, PUT_OBJECT, 1, SAY,
                PUT_METHOD, 0, 3, SAY, END_NIL), "1 said 0:0 1:1 2:7 3:1 4:3 result 0:0");
        TaleMachine m = Tale.begun(0, 0, 0, BYTE, 1, SAY, JUMP, -5);
        Check.same("51 values", m.run(3000), 3);
        Check.same("50 were said", m.show(5), 50);
        Check.same("the 51st is still there", Tale.stack(m) + " at " + m.show(1), "2:1 at 5");
    }
}
