import java.util.Arrays;

/**
 * Terms: what COLLECTING does and does not count. In each of these 16 is made (of 0) and can be come to in one
 * way alone, or in none.
 */
final class CollectBoundsTest implements Instructions {
    public static void main(String[] args) {
        nobody();
        ownValuesOfFixedOnes();
        stack();
        selfAndFound();
        result();
        parents();
        ownValuesOfMadeOnes();
        wholeChains();
        rings();
        saidPointsAndSaved();
        otherKinds();
        gone();
        Check.end();
    }

    /** Collects twice: the first answer is due, then none goes any more; of the made ones those stay. */
    private static void collected(String what, TaleMachine m, int due, int... stay) {
        int before = m.show(4);
        Check.same(what, m.collect(), due);
        Check.same(what + ": objects", m.show(4), before - due);
        Check.same(what + ": no more go", m.collect(), 0);
        for (int o = 16; o < 32; o++) {
            boolean stays = false;
            for (int one : stay) {
                stays |= one == o;
            }
            Check.same(what + ": " + o, m.isOf(o, o), stays);
        }
    }

    private static TaleMachine after(int instructions, int... code) {
        TaleMachine m = Tale.begun(code);
        Check.same("goes on", m.run(instructions), 0);
        return m;
    }

    private static void nobody() {
        collected("a new machine", new TaleMachine(), 0);
        TaleMachine fixed = new TaleMachine();
        for (int o = 0; o < 16; o++) {
            fixed.object(-1, -1, -1);
        }
        collected("fixed ones never go", fixed, 0);
        Check.same("all", fixed.show(4), 16);
        collected("one that was dropped", after(2, 0, 0, 0, MAKE, 0, DROP), 1);
        int[] code = Tale.join(Tale.bytes(0, 0, 0), Tale.times(16, MAKE, 0, DROP));
        collected("all 16", after(32, code), 16);
    }

    /** "from fixed objects .. one comes to .. the OBJECTS among its own values": every object, every property. */
    private static void ownValuesOfFixedOnes() {
        for (int o = 0; o < 16; o++) {
            for (int p = 0; p < 8; p++) {
                Story story = Story.of("own values");
                for (int i = 0; i < 16; i++) {
                    story = story.then(Call.object(-1, -1, -1));
                }
                story = story.write(0, 0, 0, MAKE, 0, PUT_OBJECT, o, SET, p, END_NIL)
                        .then(Call.property(15 - o, 7 - p, METHOD, 0), Call.begin(15 - o, 7 - p), Call.run(9));
                collected("held by " + o + "'s " + p, story.machine(), 0, 16);
                collected("no more", story.then(Call.property(o, p, -1, 0)).machine(), 1);
                collected("a NUMBER", story.then(Call.property(o, p, NUMBER, 16)).machine(), 1);
            }
        }
    }

    /** "OBJECTS on the stack": put, as a local, as an argument, of a frame below, and of the lowest and the 40th value. */
    private static void stack() {
        collected("put", after(1, 0, 0, 0, MAKE, 0), 0, 16);
        collected("a local", after(2, 0, 3, 0, MAKE, 0, INTO, 2), 0, 16);
        collected("an argument", after(2, 0, 0, 0, MAKE, 0, CALL, 1, 0, 9, 1, 0, 0, NOTHING), 0, 16);
        collected("of the frame below", after(2, 0, 0, 0, MAKE, 0, CALL, 0, 0, 9, 0, 0, 0, NOTHING), 0, 16);
        collected("the lowest of 40", after(40, Tale.join(Tale.bytes(0, 0, 0, MAKE, 0), Tale.times(39, PUT_NIL))), 0, 16);
        collected("the highest of 40", after(40, Tale.join(
                Tale.bytes(0, 0, 0), Tale.times(39, PUT_NIL), Tale.bytes(MAKE, 0))), 0, 16);
        collected("of eight frames", after(8, 0, 1, 0, MAKE, 0, CALL, 0, 0, 9, 0, 0, 0, CALL, 0, 0, 9), 0, 16);
        collected("taken", after(3, 0, 0, 0, PUT_NIL, MAKE, 0, DROP), 1);
        collected("above what is left", after(4, 0, 0, 0, PUT_NIL, MAKE, 0, MAKE, 0, DROP), 1, 16);
        collected("of a frame that has ended", after(4, 0, 0, 0, CALL, 0, 0, 8, NOTHING, 0, 0, 0, MAKE, 0, DROP, END_NIL), 1);
        collected("thrown over", after(3, 0, 0, 1, 3, 9, 1, 0, MAKE, 0, PUT_OBJECT, 1, THROW), 1);
        TaleMachine fault = Tale.begun(0, 1, 0, MAKE, 0, INTO, 0, MAKE, 0, MAKE, 0, DROP, 99);
        Check.same("fault", fault.run(9), 3);
        collected("after a fault", fault, 1, 16, 17);
        TaleMachine stopped = after(4, 0, 1, 0, MAKE, 0, INTO, 0, MAKE, 0, NOTHING);
        stopped.stop();
        collected("after a stop", stopped, 0, 16, 17);
        stopped.begin(2, 7);
        collected("after another begin", stopped, 2);
    }

    /** 16 is made, and what is asked in it is found in 0; or it is a parent of 17, which is asked. */
    private static void selfAndFound() {
        int[] code = {0, 0, 0, MAKE, 0, ASK, 0, 6, NOTHING, 0, 0, 0, NOTHING, CALL, 0, 0, 17, 0, 0, 0, NOTHING, END_NIL};
        Story story = Story.with("SELF", code)
                .then(Call.property(0, 6, METHOD, 9), Call.property(2, 7, METHOD, 0), Call.begin(2, 7));
        collected("SELF of the topmost frame", story.then(Call.run(2)).machine(), 0, 16);
        TaleMachine below = story.then(Call.run(4)).machine();
        Check.same("three frames", below.show(0) + " self " + below.show(2), "3 self -1");
        collected("SELF of a frame below", below, 0, 16);
        found(0);
        found(1);
    }

    /**
     * The METHOD is 16's own and 17, of 16, is SELF. What is brought back then has 17 of 0, so that nothing but
     * FOUND leads to 16; with a call more the frame is not the topmost one.
     */
    private static void found(int more) {
        int[] first = {0, 0, 0, MAKE, 0, DROP, MAKE, 0, DROP, SAVE, 0, END_NIL};
        int[] second = {0, 0, 0, MAKE, 0, DROP, MAKE, 16, DROP, PUT_METHOD, 0, 40, PUT_OBJECT, 16, SET, 0,
            PUT_OBJECT, 17, ASK, 0, 0, END_NIL, 0, 0, 0, 0, 0, 0};
        int[] third = {0, 0, 0, LOAD, 0, DROP, CALL, 0, 0, 51, END_NIL, 0, 0, 0, NOTHING, END_NIL};
        TaleMachine m = Tale.with(Tale.join(first, second, third));
        m.property(0, 1, METHOD, 0);
        m.property(0, 2, METHOD, 12);
        m.begin(0, 1);
        Check.same("saved", m.run(9), 1);
        collected("nobody has them", m, 2);
        m.begin(0, 2);
        Check.same("brought back", m.run(11 + more), 0);
        Check.same("frames", m.show(0) + " " + m.isOf(17, 16) + m.isOf(17, 0), (2 + more) + " falsetrue");
        collected("FOUND", m, 0, 16, 17);
        Check.same("the end", m.run(9), 1);
        collected("no frames", m, 2);
    }

    /** "and the result": after 1 and after 2, until another run begins. */
    private static void result() {
        TaleMachine ended = Tale.begun(0, 0, 0, MAKE, 0, MAKE, 0, END);
        Check.same("ended", ended.run(9), 1);
        collected("the result", ended, 1, 17);
        ended.begin(2, 7);
        collected("is gone", ended, 1);
        TaleMachine uncaught = Tale.begun(0, 0, 0, MAKE, 0, MAKE, 0, THROW);
        Check.same("uncaught", uncaught.run(9), 2);
        collected("the result", uncaught, 1, 17);
        TaleMachine number = Tale.begun(0, 0, 0, MAKE, 0, BYTE, 16, END);
        Check.same("ended", number.run(9), 1);
        collected("NUMBER 16 is no OBJECT", number, 1);
    }

    /** "from an object one comes to its parents": also to those with a higher number. */
    private static void parents() {
        collected("a parent", after(3, 0, 0, 0, MAKE, 0, DROP, MAKE, 16), 0, 16, 17);
        collected("not a child", after(4, 0, 0, 0, MAKE, 0, MAKE, 16, DROP, NOTHING), 1, 16);
        TaleMachine higher = after(4, 0, 1, 0, MAKE, 0, DROP, MAKE, 0, INTO, 0, MAKE, 17, INTO, 0);
        collected("16 goes", higher, 1, 17);
        Check.same("and is made of 17", higher.run(2) + " " + higher.isOf(16, 17), "0 true");
        collected("its parent stays", higher, 0, 16, 17);
    }

    /** "and the OBJECTS among its own values": for every property of a made one. */
    private static void ownValuesOfMadeOnes() {
        for (int p = 0; p < 8; p++) {
            collected("by " + p, after(4, 0, 0, 0, MAKE, 0, MAKE, 0, PUT_OBJECT, 16, SET, p), 0, 16, 17);
            collected("NUMBER 17", after(6, 0, 0, 0, MAKE, 0, MAKE, 0, DROP, BYTE, 17, PUT_OBJECT, 16, SET, p), 1, 16);
        }
    }

    /** All 16 hang on one another, by their parents and by own values, from the first or from the last. */
    private static void wholeChains() {
        int[] parents = {0, 0, 0, MAKE, 0, DROP};
        int[] values = {0, 0, 0, MAKE, 0, DROP};
        for (int o = 17; o < 32; o++) {
            parents = Tale.join(parents, Tale.bytes(MAKE, o - 1, DROP));
            values = Tale.join(values, Tale.bytes(MAKE, 0, PUT_OBJECT, o - 1, SET, o & 7));
        }
        int[] all = {16, 17, 18, 19, 20, 21, 22, 23, 24, 25, 26, 27, 28, 29, 30, 31};
        collected("31's parents", after(33, Tale.join(parents, Tale.bytes(PUT_OBJECT, 31))), 0, all);
        collected("nobody's", after(33, Tale.join(parents, Tale.bytes(PUT_OBJECT, 0))), 16);
        collected("30's parents", after(33, Tale.join(parents, Tale.bytes(PUT_OBJECT, 30))), 1, Arrays.copyOf(all, 15));
        collected("16's values", after(48, Tale.join(values, Tale.bytes(PUT_OBJECT, 16))), 0, all);
        collected("17's values", after(48, Tale.join(values, Tale.bytes(PUT_OBJECT, 17))), 1, Arrays.copyOfRange(all, 1, 16));
        collected("31's values", after(48, Tale.join(values, Tale.bytes(PUT_OBJECT, 31))), 15, 31);
        collected("nobody's values", after(48, Tale.join(values, Tale.bytes(PUT_OBJECT, 0))), 16);
    }

    private static void rings() {
        int[] ring = {0, 0, 0, MAKE, 0, PUT_OBJECT, 16, SET, 0,
            MAKE, 0, MAKE, 17, SET, 1, PUT_OBJECT, 18, PUT_OBJECT, 17, SET, 2};
        collected("one that has itself, and two that have each other", after(9, ring), 3);
        collected("one of the two on the stack", after(10, Tale.join(ring, Tale.bytes(PUT_OBJECT, 17))), 1, 17, 18);
    }

    /** "(What was said, points and what is saved do not count.)" */
    private static void saidPointsAndSaved() {
        collected("said", after(2, 0, 0, 0, MAKE, 0, SAY), 1);
        collected("a point", after(3, 0, 0, 0, MAKE, 0, POINT, DROP), 1);
        collected("saved in 0", after(3, 0, 0, 0, MAKE, 0, SAVE, 0, DROP), 1);
        collected("saved in 1", after(3, 0, 0, 0, MAKE, 0, SAVE, 1, DROP), 1);
        // Object 1 had it as its own value when the point was set and all was saved.
        TaleMachine held = after(9, 0, 0, 0, MAKE, 0, PUT_OBJECT, 1, SET, 0, POINT, SAVE, 0, SAVE, 1,
                PUT_NIL, PUT_OBJECT, 1, SET, 0);
        collected("had when the point was set", held, 1);
    }

    /** An int is no OBJECT; a handler's object, and one that code names, are not held. */
    private static void otherKinds() {
        collected("NUMBER on the stack", after(3, 0, 0, 0, MAKE, 0, DROP, BYTE, 16), 1);
        collected("METHOD on the stack", after(3, 0, 0, 0, MAKE, 0, DROP, PUT_METHOD, 0, 16), 1);
        collected("METHOD as own value", after(5, 0, 0, 0, MAKE, 0, DROP, PUT_METHOD, 0, 16, PUT_OBJECT, 0, SET, 0), 1);
        collected("a handler's object", after(2, 0, 0, 1, 0, 255, 16, 0, MAKE, 0, DROP, PUT_OBJECT, 16), 1);
    }

    /** What has gone is not there: for has, isOf, property and begin; OBJECTS of it hold nothing else. */
    private static void gone() {
        Story story = Story.begun("gone", 0, 0, 0, MAKE, 0, DROP, NOTHING).then(Call.run(2), Call.collect());
        TaleMachine m = story.machine();
        Check.same("objects", m.show(4), 3);
        Check.no("isOf", m.isOf(16, 0) || m.isOf(16, 16));
        Check.same("has", Call.has(16, 7, 0).on(m), "NoSuchElementException");
        Story stopped = story.then(Call.stop());
        Twins.unchanged(stopped, Call.property(16, 0, NIL, 0), "NoSuchElementException");
        Twins.unchanged(stopped, Call.property(0, 0, OBJECT, 16), "IllegalArgumentException");
        Twins.unchanged(stopped, Call.begin(16, 7), "NoSuchElementException");
        // 17 was 16's own value; undone, both are gone, and OBJECT 16 on the stack leads nowhere.
        TaleMachine undone = after(7, 0, 0, 0, POINT, MAKE, 0, MAKE, 0, PUT_OBJECT, 16, SET, 0, UNDO, MAKE, 0);
        collected("16 again, without its value", undone, 0, 16);
    }
}
