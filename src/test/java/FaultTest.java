import java.util.NoSuchElementException;

/** Promise 6: faults: the run is over (3), and the instruction has done nothing. */
final class FaultTest implements Instructions {
    public static void main(String[] args) {
        noInstruction();
        outsideOfTheCode();
        nothingToTake();
        wrongKinds();
        wrongNumbers();
        notThere();
        methodsThatCannotBeCalled();
        noFreeNumber();
        fullStack();
        whatStays();
        Check.end();
    }

    /** The code of a body that puts `before` values in as many instructions, and then has a wrong one. */
    private static void isFault(String what, int before, int... body) {
        TaleMachine m = Tale.begun(Tale.join(Tale.bytes(0, 1, 0), body));
        Check.same(what + ": before", m.run(before), 0);
        String was = state(m);
        Check.same(what, m.run(1), 3);
        Check.same(what + ": nothing done", state(m), was);
        Check.same(what + ": again", m.run(3000), 3);
        Check.no(what + ": stop", m.stop());
    }

    private static String state(TaleMachine m) {
        StringBuilder text = new StringBuilder(Tale.stack(m));
        for (int what : new int[] {0, 1, 2, 4, 5}) {
            text.append(' ').append(m.show(what));
        }
        return text.toString();
    }

    private static void noInstruction() {
        for (int b = 35; b < 256; b++) {
            isFault("byte " + b, 0, b, 0, 0, 0, 0);
        }
    }

    private static void outsideOfTheCode() {
        int[] lengths = {
            1, 2, 5, 1, 1, 2, 3, 2, 2, 1, 1, 1, 1, 1, 1, 1, 1, 1, 1, 2, 2, 3, 2, 3, 4, 1, 1, 1, 2, 2, 1, 1, 1, 2, 2};
        isFault("no byte", 0);
        for (int b = 0; b < lengths.length; b++) {
            for (int has = 1; has < lengths[b]; has++) {
                int[] part = new int[has];
                part[0] = b;
                isFault("instruction " + b + " with " + has + " bytes", 3,
                        Tale.join(Tale.bytes(PUT_TRUE, PUT_TRUE, PUT_OBJECT, 0), part));
            }
        }
        isFault("behind the end", 1, JUMP, 0);
        isFault("far behind it", 1, JUMP, 127);
        isFault("before the start", 1, JUMP, -6);
    }

    private static void nothingToTake() {
        for (int b : new int[] {AGAIN, DROP, NOT, END, THROW, SAY, PLUS, MINUS, TIMES, OVER, LESS, LIKE}) {
            isFault("nothing for " + b, 0, b);
        }
        for (int b : new int[] {PLUS, MINUS, TIMES, OVER, LESS, LIKE}) {
            isFault("one for " + b, 1, BYTE, 1, b);
        }
        isFault("into a local", 0, INTO, 0);
        isFault("a jump", 0, UNLESS, 0);
        isFault("an ASK", 0, ASK, 0, 0);
        isFault("an argument for ASK", 1, PUT_OBJECT, 0, ASK, 1, 0);
        isFault("SET", 0, SET, 0);
        isFault("SET with an OBJECT alone", 1, PUT_OBJECT, 0, SET, 0);
        isFault("is of", 0, TEST_OF, 0);
        isFault("an argument for INHERITED", 0, INHERITED, 1, 7);
        isFault("an argument for ASK of a method, but a local", 4,
                PUT_METHOD, 0, 14, PUT_OBJECT, 1, SET, 1, PUT_OBJECT, 2, ASK, 1, 1, 1, 0, 0, END_NIL);
        isFault("an argument for INHERITED of a method, but a local", 3,
                PUT_METHOD, 0, 14, PUT_OBJECT, 1, SET, 7, INHERITED, 1, 7, 0, 0, 1, 0, 0, END_NIL);
        isFault("an argument for a call", 1, PUT_NIL, CALL, 2, 0, 11, 0, 2, 0, 0, END_NIL);
        isFault("what the frame below has put", 2, PUT_NIL, CALL, 0, 0, 8, 0, 0, 0, DROP);
    }

    private static void wrongKinds() {
        for (int operation : new int[] {PLUS, MINUS, TIMES, OVER, LESS}) {
            isFault("NIL first", 2, PUT_NIL, BYTE, 0, operation);
            isFault("TRUE second", 2, BYTE, 0, PUT_TRUE, operation);
            isFault("OBJECT first", 2, PUT_OBJECT, 1, BYTE, 0, operation);
            isFault("METHOD second", 2, BYTE, 1, PUT_METHOD, 0, 0, operation);
        }
        isFault("ASK NIL", 1, PUT_NIL, ASK, 0, 0);
        isFault("ASK NUMBER", 1, BYTE, 0, ASK, 0, 0);
        isFault("ASK METHOD", 1, PUT_METHOD, 0, 0, ASK, 0, 0);
        isFault("SET NUMBER", 2, PUT_OBJECT, 0, BYTE, 0, SET, 0);
        isFault("throw NUMBER", 1, BYTE, 0, THROW);
        isFault("throw NIL", 1, PUT_NIL, THROW);
    }

    private static void wrongNumbers() {
        isFault("local 1 of one", 0, LOCAL, 1);
        isFault("local 255", 0, LOCAL, 255);
        isFault("into local 1 of one", 1, PUT_NIL, INTO, 1);
        isFault("into local 255", 1, PUT_NIL, INTO, 255);
        for (int p : new int[] {8, 255}) {
            isFault("ASK for " + p, 1, PUT_OBJECT, 0, ASK, 0, p);
            isFault("SET for " + p, 2, PUT_NIL, PUT_OBJECT, 0, SET, p);
            isFault("INHERITED for " + p, 0, INHERITED, 0, p);
        }
        int[] five = {PUT_NIL, PUT_NIL, PUT_NIL, PUT_NIL, PUT_OBJECT, 2};
        isFault("n 4 for ASK", 5, Tale.join(five, Tale.bytes(ASK, 4, 7)));
        isFault("n 4 for INHERITED", 4, PUT_NIL, PUT_NIL, PUT_NIL, PUT_NIL, INHERITED, 4, 7);
        isFault("n 4 for a call", 4, PUT_NIL, PUT_NIL, PUT_NIL, PUT_NIL, CALL, 4, 0, 11, 4, 0, 0, END_NIL);
        isFault("n 0 for INHERITED of nothing but with one", 1, PUT_NIL, INHERITED, 1, 7);
        for (int s : new int[] {2, 255}) {
            isFault("save in " + s, 0, SAVE, s);
            isFault("load from " + s, 0, LOAD, s);
        }
    }

    private static void notThere() {
        for (int o : new int[] {3, 15, 16, 31, 32, 255}) {
            isFault("put " + o, 0, PUT_OBJECT, o);
            isFault("make of " + o, 0, MAKE, o);
            isFault("is of " + o, 1, PUT_OBJECT, 0, TEST_OF, o);
            isFault("NIL is of " + o, 1, PUT_NIL, TEST_OF, o);
        }
        int[] gone = {POINT, MAKE, 0, INTO, 0, UNDO, DROP};
        isFault("named", 5, Tale.join(gone, Tale.bytes(PUT_OBJECT, 16)));
        isFault("thrown", 6, Tale.join(gone, Tale.bytes(LOCAL, 0, THROW)));
        isFault("asked", 6, Tale.join(gone, Tale.bytes(LOCAL, 0, ASK, 0, 0)));
        isFault("set", 7, Tale.join(gone, Tale.bytes(PUT_NIL, LOCAL, 0, SET, 0)));
        selfOrFoundNotThere();
        Check.same("but it may stand anywhere", Tale.told(Tale.join(Tale.bytes(0, 1, 0), gone, Tale.bytes(
                LOCAL, 0, SAY, LOCAL, 0, TEST_OF, 0, SAY, LOCAL, 0, PUT_OBJECT, 1, SET, 2,
                LOCAL, 0, NOT, SAY, PUT_OBJECT, 1, ASK, 0, 2, END))), "1 said 3:16 0:0 0:0 result 3:16");
        Check.same("and is the one that takes its number", Tale.told(Tale.join(Tale.bytes(0, 1, 0), gone, Tale.bytes(
                MAKE, 1, DROP, LOCAL, 0, TEST_OF, 1, END))), "1 said result 1:1");
    }

    private static void selfOrFoundNotThere() {
        // The method is 16's own, and 17 is made of 16: undone, one of the two numbers is taken again.
        int[] start = {0, 0, 0, POINT, MAKE, 0, DROP, MAKE, 16, DROP,
            PUT_METHOD, 0, 24, PUT_OBJECT, 16, SET, 0, PUT_OBJECT, 17, ASK, 0, 0, END, 0};
        TaleMachine self = Tale.begun(Tale.join(start, Tale.bytes(
                0, 0, 0, UNDO, DROP, MAKE, 1, DROP, INHERITED, 0, 0, END)));
        Check.same("SELF is not there, FOUND is", Tale.rest(self) + " " + self.isOf(16, 1), "3 said at 32 true");
        // Here 16 is made of 17, for it has gone by collecting before.
        TaleMachine found = Tale.begun(0, 1, 0, POINT, MAKE, 0, DROP, MAKE, 0, INTO, 0,
                MAKE, 17, DROP, PUT_METHOD, 0, 27, PUT_OBJECT, 17, SET, 0, PUT_OBJECT, 16, ASK, 0, 0, END,
                0, 0, 0, UNDO, DROP, MAKE, 1, DROP, INHERITED, 0, 0, END);
        found.run(5);
        Check.same("16 goes", found.collect(), 1);
        Check.same("FOUND is not there, SELF is", Tale.rest(found) + " " + found.isOf(16, 1), "3 said at 35 true");
        Check.same("SELF", found.show(2), 16);
    }

    private static void methodsThatCannotBeCalled() {
        isFault("behind the code", 0, CALL, 0, 1, 44);
        isFault("at 65535", 0, CALL, 0, 255, 255);
        isFault("without a whole head", 0, CALL, 0, 0, 7, 0, 0);
        isFault("with other arguments", 0, CALL, 0, 0, 7, 1, 0, 0, END_NIL);
        isFault("with four locals", 0, CALL, 0, 0, 7, 0, 4, 0, END_NIL);
        isFault("with four handlers", 0, Tale.join(Tale.bytes(CALL, 0, 0, 7, 0, 0, 4), Tale.times(17, 0)));
        isFault("without its handlers", 0, CALL, 0, 0, 7, 0, 0, 1, 0, 0, 0);
        isFault("without an instruction, but up to its beginning", 1, CALL, 0, 0, 7, 0, 0, 0);
        isFault("asked", 4, PUT_METHOD, 255, 0, PUT_OBJECT, 1, SET, 1, PUT_OBJECT, 2, ASK, 0, 1);
        isFault("inherited", 3, PUT_METHOD, 255, 0, PUT_OBJECT, 1, SET, 7, INHERITED, 0, 7);
        isFault("asked with too few arguments", 1, PUT_OBJECT, 2, ASK, 1, 7);
    }

    private static void noFreeNumber() {
        isFault("a 17th made object", 16, Tale.times(17, MAKE, 1));
    }

    private static void fullStack() {
        int[] full = Tale.times(39, PUT_NIL);
        int[][] putting = {
            {BYTE, 1}, {WORD, 0, 0, 0, 0}, {PUT_NIL}, {PUT_TRUE}, {PUT_OBJECT, 0}, {PUT_METHOD, 0, 0}, {LOCAL, 0},
            {SELF}, {AGAIN}, {MAKE, 0}, {UNDO}, {LOAD, 0}, {INHERITED, 0, 7}
        };
        for (int[] one : putting) {
            isFault("full, " + one[0], 39, Tale.join(full, one));
        }
        isFault("a call with locals", 39, Tale.join(full, Tale.bytes(CALL, 0, 0, 46, 0, 1, 0, END_NIL)));
        isFault("an undo does not undo", 42, Tale.join(Tale.bytes(POINT, MAKE, 1, DROP), full, Tale.bytes(UNDO)));
        TaleMachine m = Tale.begun(Tale.join(Tale.bytes(0, 1, 0, SAVE, 1, MAKE, 1, DROP), full, Tale.bytes(LOAD, 1)));
        Check.same("nor does a load", m.run(3000) + " " + m.show(4), "3 4");
    }

    private static void whatStays() {
        TaleMachine m = Tale.begun(0, 0, 0, POINT, MAKE, 1, SAY, BYTE, 3, CALL, 1, 0, 13, 1, 1, 0, POINT, DROP);
        m.run(6);
        Check.same("points before", m.show(3), 2);
        Check.same("fault", m.run(1), 3);
        Check.same("points go", m.show(3), 0);
        Check.same("frames stay", m.show(0) + " " + m.show(1) + " " + m.show(2) + " " + Tale.stack(m), "2 17 -1 2:3 0:0");
        Check.same("what was said stays", m.said(0, 1), 16);
        Check.fails("no result", NoSuchElementException.class, () -> m.said(-1, 0));
    }
}
