import java.util.function.IntFunction;

/** Terms: the numbers of objects, their parents, properties and own values, at their limits everywhere. */
final class ObjectBoundsTest implements Instructions {
    public static void main(String[] args) {
        fixedNumbers();
        madeNumbers();
        namedFixedObjects();
        namedMadeObjects();
        objectsAsked();
        parents();
        propertiesFromOutside();
        propertiesOfInstructions();
        everyOwnValue();
        noOwnValues();
        noOwnValuesOfAnyNumber();
        makingChangesNothingElse();
        lowestFreeNumber();
        lines();
        Check.end();
    }

    private static Story fixed(int n) {
        Story story = Story.of(n + " fixed ones");
        for (int o = 0; o < n; o++) {
            story = story.then(Call.object(o - 1, -1, -1));
        }
        return story;
    }

    /** "Numbers 0 .. 15 are for FIXED objects"; "Answers its number: 0, 1, .."; "when there are 16". */
    private static void fixedNumbers() {
        for (int n = 0; n <= 15; n++) {
            TaleMachine m = fixed(n).machine();
            Check.no(n + " before", m.isOf(n, n));
            Check.same("number", m.object(-1, -1, -1), n);
            Check.yes(n + " after", m.isOf(n, n));
            Check.same("objects", m.show(4), n + 1);
        }
        Twins.unchanged(fixed(16), Call.object(-1, -1, -1), "IllegalStateException");
        Twins.unchanged(fixed(16), Call.object(15, -1, -1), "IllegalStateException");
        Twins.unchanged(fixed(16), Call.object(16, -1, -1), "IllegalArgumentException");
    }

    /** A story whose run has made n objects and dropped each. */
    private static Story made(int fixed, int n) {
        return fixed(fixed).write(Tale.join(Tale.bytes(0, 0, 0), Tale.times(n + 1, MAKE, 0, DROP), Tale.bytes(END_NIL)))
                .then(Call.property(0, 0, METHOD, 0), Call.begin(0, 0), Call.run(2 * n))
                .named(fixed + " fixed ones and " + n + " made");
    }

    /** "16 .. 31 for those that the machine MAKES", however many fixed ones there are; "no free number". */
    private static void madeNumbers() {
        for (int fixed : new int[] {1, 15, 16}) {
            for (int n = 0; n <= 15; n++) {
                TaleMachine m = Twins.done(made(fixed, n), 0);
                Check.same("number", m.stack(0, 0) + ":" + m.stack(0, 1), "3:" + (16 + n));
                Check.same("objects", m.show(4), fixed + n + 1);
                Check.yes("is there", m.isOf(16 + n, 0));
            }
            Twins.fault(made(fixed, 16));
        }
    }

    /** The instruction is done with the first and the last object that is there, and a fault with the next. */
    private static void named(String what, Story before, int last, int instruction, IntFunction<String> due) {
        for (int o : new int[] {0, last}) {
            TaleMachine m = Twins.done(before.write(instruction, o).named(what + " " + o), 0);
            Check.same(what + " " + o, top(m), due.apply(o));
        }
        for (int o : new int[] {last + 1, 32, 33, 127, 128, 255}) {
            Twins.fault(before.write(instruction, o).named(what + " " + o));
        }
    }

    private static String top(TaleMachine m) {
        String[] values = Tale.stack(m).split(" ");
        return values[values.length - 1];
    }

    /** A run under way, with one value put; what is written next is done next. */
    private static Story ready(int fixed) {
        return fixed(fixed).write(0, 0, 0, PUT_OBJECT, 0)
                .then(Call.property(0, 7, METHOD, 0), Call.begin(0, 7), Call.run(1));
    }

    private static void namedFixedObjects() {
        for (int fixed : new int[] {1, 3, 15, 16}) {
            named(fixed + ": puts OBJECT", ready(fixed), fixed - 1, PUT_OBJECT, o -> "3:" + o);
            named(fixed + ": makes of", ready(fixed), fixed - 1, MAKE, o -> "3:16");
            named(fixed + ": OBJECT 0 is of", ready(fixed), fixed - 1, TEST_OF, o -> o == 0 ? "1:1" : "0:0");
            TaleMachine m = Twins.done(ready(fixed).write(MAKE, fixed - 1).named("makes of the last"), 0);
            Check.yes("it is of the last fixed one", m.isOf(16, fixed - 1));
        }
    }

    /** The same with as many made ones: up to 31 can be named, but to make one a number must be free. */
    private static void namedMadeObjects() {
        for (int last = 16; last <= 31; last++) {
            int made = last - 15;
            Story story = fixed(1)
                    .write(Tale.join(Tale.bytes(0, 0, 0), Tale.times(made, MAKE, 0, DROP), Tale.bytes(PUT_OBJECT, last)))
                    .then(Call.property(0, 0, METHOD, 0), Call.begin(0, 0), Call.run(2 * made + 1));
            int next = last + 1;
            named(last + ": puts OBJECT", story, last, PUT_OBJECT, named -> "3:" + named);
            named(last + ": the last is of", story, last, TEST_OF, named -> "1:1");
            if (last < 31) {
                named(last + ": makes of", story, last, MAKE, named -> "3:" + next);
                Check.yes("it is of that", Twins.done(story.write(MAKE, last), 0).isOf(next, last));
            }
        }
    }

    /** From outside: 15 and 31 when they are there, -1 and 32 never. */
    private static void objectsAsked() {
        Story story = made(16, 16).then(Call.stop());
        for (int o : new int[] {0, 15, 16, 31}) {
            TaleMachine m = story.machine();
            m.property(o, 7, OBJECT, o);
            Check.same("its own", Portrait.had(m, o, 7), "3:" + o + "@" + o);
            Check.yes("is there", m.isOf(o, o));
            m.begin(o, 0);
            Check.same("SELF", m.show(2), o);
        }
        for (int o : new int[] {-1, 32}) {
            Twins.unchanged(story, Call.property(o, 7, NIL, 0), "NoSuchElementException");
            Twins.unchanged(story, Call.property(0, 7, OBJECT, o), "IllegalArgumentException");
            Twins.unchanged(story, Call.begin(o, 0), "NoSuchElementException");
            Twins.unchanged(story, Call.has(o, 0, 0), "NoSuchElementException");
            Twins.unchanged(story, Call.isOf(o, 0), false);
            Twins.unchanged(story, Call.isOf(0, o), false);
        }
    }

    private static String of(TaleMachine m, int o) {
        StringBuilder text = new StringBuilder();
        for (int other = 0; other < 32; other++) {
            text.append(m.isOf(o, other) ? other + " " : "");
        }
        return text.toString().trim();
    }

    /** "0 to 3 PARENTS"; "those from the first that is -1 on are none; each is a fixed one that is there". */
    private static void parents() {
        int[][] parents = {
            {-1, -1, -1}, {-1, 0, 1}, {-1, 99, -9}, {0, -1, -1}, {0, -1, 1}, {3, -1, 99}, {0, 1, -1}, {3, 2, -1},
            {1, 2, 3}, {3, 2, 0}, {3, 3, 3}, {0, 0, 3}};
        String[] due = {"4", "4", "4", "0 4", "0 4", "3 4", "0 1 4", "2 3 4", "1 2 3 4", "0 2 3 4", "3 4", "0 3 4"};
        for (int i = 0; i < parents.length; i++) {
            TaleMachine m = new TaleMachine();
            for (int o = 0; o < 4; o++) {
                m.object(-1, -1, -1);
            }
            Check.same("number", m.object(parents[i][0], parents[i][1], parents[i][2]), 4);
            Check.same("of whom " + i, of(m, 4), due[i]);
        }
        for (int last = 0; last <= 14; last++) {
            TaleMachine m = fixed(last + 1).machine();
            Check.same("the last one as the third parent", m.object(0, 0, last), last + 1);
            Twins.unchanged(fixed(last + 1), Call.object(last + 1, -1, -1), "IllegalArgumentException");
            Twins.unchanged(fixed(last + 1), Call.object(0, last + 1, -1), "IllegalArgumentException");
            Twins.unchanged(fixed(last + 1), Call.object(0, 0, last + 1), "IllegalArgumentException");
        }
    }

    /** "for each property 0 .. 7", and neither -1 nor 8, in property, has and begin. */
    private static void propertiesFromOutside() {
        Story story = Story.with("properties", 0, 0, 0, NOTHING, END_NIL);
        for (int p = 0; p <= 7; p++) {
            TaleMachine m = story.machine();
            m.property(0, p, METHOD, 0);
            Check.same("has " + p, m.has(2, p, 0) + ":" + m.has(2, p, 1) + "@" + m.has(2, p, 2), "4:0@0");
            m.begin(2, p);
            Check.same("begun " + p, m.run(9), 1);
        }
        Story all = story;
        for (int p = 0; p <= 7; p++) {
            all = all.then(Call.property(0, p, METHOD, 0));
        }
        for (int p : new int[] {-2, -1, 8, 9}) {
            Twins.unchanged(all, Call.property(1, p, METHOD, 0), "IllegalArgumentException");
            Twins.unchanged(all, Call.property(1, p, -1, 0), "IllegalArgumentException");
            Twins.unchanged(all, Call.has(1, p, 0), "NoSuchElementException");
            Twins.unchanged(all, Call.begin(1, p), "IllegalArgumentException");
        }
    }

    /** The same for 21, 22 and 23. */
    private static void propertiesOfInstructions() {
        for (int p = 0; p <= 7; p++) {
            Story story = ready(2).then(Call.stop(), Call.property(1, p, NUMBER, 60 + p), Call.property(0, p, METHOD, 0));
            Story asked = story.write(PUT_OBJECT, 1, ASK, 0, p).then(Call.begin(0, p), Call.run(2)).named("ASK " + p);
            Check.same("ASK " + p, Tale.stack(Twins.done(asked, 0)), "3:0 2:" + (60 + p));
            Story set = story.write(PUT_TRUE, PUT_OBJECT, 1, SET, p).then(Call.begin(0, p), Call.run(3)).named("SET " + p);
            Check.same("SET " + p, Portrait.had(Twins.done(set, 0), 1, p), "1:1@1");
            Story behind = Story.with("INHERITED " + p, 0, 0, 0, INHERITED, 0, p)
                    .then(Call.property(1, 7 - p, METHOD, 0), Call.property(0, p, NUMBER, 70 + p), Call.begin(2, 7 - p));
            Check.same("INHERITED " + p, Tale.stack(Twins.done(behind, 0)), "2:" + (70 + p));
        }
        for (int p : new int[] {8, 9, 127, 128, 255}) {
            Story story = ready(2).write(PUT_OBJECT, 1).then(Call.run(1));
            Twins.fault(story.write(ASK, 0, p).named("ASK " + p));
            Twins.fault(story.write(SET, p).named("SET " + p));
            Twins.fault(story.write(INHERITED, 0, p).named("INHERITED " + p));
        }
    }

    /** Every object has its own value for every property: none is another's. */
    private static void everyOwnValue() {
        for (int o : new int[] {0, 1, 14, 15, 16, 17, 30, 31}) {
            TaleMachine m = made(16, 16).then(Call.stop(), Call.property(0, 0, -1, 0)).machine();
            for (int p = 0; p < 8; p++) {
                m.property(o, p, NUMBER, 10 * p + o);
            }
            for (int p = 0; p < 8; p++) {
                Check.same("own", Portrait.had(m, o, p), "2:" + (10 * p + o) + "@" + o);
                m.property(o, p, -1, 0);
                for (int other = 16; other < 32; other++) {
                    Check.same(other + " has none", Portrait.had(m, other, p), "-");
                }
            }
        }
    }

    /** "an OWN value or none": none at first, of a fixed one, of a made one, and of one whose number was another's. */
    private static void noOwnValues() {
        int[] body = {0, 0, 0, MAKE, 0, DROP, POINT, BYTE, 5, PUT_OBJECT, 16, SET, 0, BYTE, 6, PUT_OBJECT, 16, SET, 7,
            NOTHING, MAKE, 0, DROP, UNDO, DROP};
        TaleMachine m = fixed(1).write(body)
                .then(Call.property(0, 3, METHOD, 0), Call.begin(0, 3), Call.run(9)).machine();
        Check.same("two own values", Portrait.had(m, 16, 0) + " " + Portrait.had(m, 16, 7), "2:5@16 2:6@16");
        Check.same("16 goes", m.collect(), 1);
        m.run(2);
        for (int p = 0; p < 8; p++) {
            Check.same("16 made again, for " + p, Portrait.had(m, 16, p), p == 3 ? "4:0@0" : "-");
        }
        m.run(2);
        Check.same("as it was before both", Portrait.had(m, 16, 0) + " " + Portrait.had(m, 16, 7), "- -");
        TaleMachine fresh = fixed(16).machine();
        for (int o = 0; o < 16; o++) {
            for (int p = 0; p < 8; p++) {
                Check.same("a fixed one has none", Portrait.had(fresh, o, p), "-");
            }
        }
    }

    /** A method that makes 16 objects, one that makes one, and n made by the first; its METHODS are object 0's 3 and 4. */
    private static Story madeAndOver(int fixed, int n) {
        int[] many = Tale.join(Tale.bytes(0, 0, 0), Tale.times(16, MAKE, 0, DROP), Tale.bytes(END_NIL));
        return fixed(fixed).write(many).write(0, 0, 0, MAKE, 0, END)
                .then(Call.property(0, 3, METHOD, 0), Call.property(0, 4, METHOD, many.length),
                        Call.begin(0, 3), Call.run(2 * n), Call.stop());
    }

    /** "without own values": also where one of the same number had them, for every number that can be made. */
    private static void noOwnValuesOfAnyNumber() {
        TaleMachine m = madeAndOver(1, 16).machine();
        for (int o = 16; o < 32; o++) {
            m.property(o, 0, NUMBER, o);
            m.property(o, 7, OBJECT, o);
        }
        Check.same("all go", m.collect(), 16);
        m.begin(0, 3);
        Check.same("all are made again", m.run(99) + " " + m.show(4), "1 17");
        for (int o = 16; o < 32; o++) {
            for (int p = 0; p < 8; p++) {
                Check.same(o + " for " + p, Call.has(o, p, 2).on(m), p == 3 || p == 4 ? "0" : "NoSuchElementException");
            }
        }
    }

    /** 28 makes one object: every other one stays as it was. */
    private static void makingChangesNothingElse() {
        for (int n = 0; n <= 15; n++) {
            TaleMachine m = madeAndOver(16, n).machine();
            for (int o = 0; o < 16 + n; o++) {
                m.property(o, 0, NUMBER, o);
                m.property(o, 7, NUMBER, 100 + o);
            }
            m.begin(0, 4);
            Check.same("made", m.run(9) + " " + m.said(-1, 1), "1 " + (16 + n));
            for (int o = 0; o < 16 + n; o++) {
                Check.same("as it was", Portrait.had(m, o, 0) + " " + Portrait.had(m, o, 7),
                        "2:" + o + "@" + o + " 2:" + (100 + o) + "@" + o);
            }
        }
    }

    /** "of the lowest free number": the first gap, then the next, and none that is taken. */
    private static void lowestFreeNumber() {
        // 17 and 31 stay as object 0's own values, 18 as the parent of 19, which is object 0's too.
        int[] keep = {PUT_OBJECT, 17, PUT_OBJECT, 0, SET, 1, PUT_OBJECT, 31, PUT_OBJECT, 0, SET, 2,
            PUT_OBJECT, 19, PUT_OBJECT, 0, SET, 3};
        int[] code = Tale.join(Tale.bytes(0, 0, 0), Tale.times(3, MAKE, 0, DROP), Tale.bytes(MAKE, 18, DROP),
                Tale.times(12, MAKE, 0, DROP), keep, Tale.bytes(END_NIL), Tale.bytes(0, 0, 0), Tale.times(13, MAKE, 0));
        int second = code.length - 29;
        TaleMachine m = fixed(1).write(code).then(Call.property(0, 0, METHOD, 0), Call.property(0, 4, METHOD, second),
                Call.begin(0, 0)).machine();
        Check.same("made", m.run(99) + " " + m.show(4), "1 17");
        Check.same("all but four go", m.collect(), 12);
        m.begin(0, 4);
        Check.same("a fault at the 13th", m.run(99), 3);
        Check.same("the free numbers in their order", Tale.stack(m),
                "3:16 3:20 3:21 3:22 3:23 3:24 3:25 3:26 3:27 3:28 3:29 3:30");
    }

    /** "of an object that stands in it more than once the last time alone counts", also through made ones. */
    private static void lines() {
        TaleMachine m = new TaleMachine();
        m.object(-1, -1, -1);
        m.object(0, -1, -1);
        m.object(0, -1, -1);
        m.object(1, 2, 1);
        Tale.write(m, 0, 0, 0, MAKE, 3, DROP, MAKE, 16, DROP, END_NIL);
        m.property(0, 0, METHOD, 0);
        m.begin(0, 0);
        m.run(9);
        for (int o : new int[] {17, 16, 3, 2, 1, 0}) {
            m.property(o, 5, NUMBER, o);
        }
        for (int first : new int[] {17, 16, 3, 2, 1, 0}) {
            Check.same("the first along the line", m.has(17, 5, 2) + " " + m.has(17, 5, 1), first + " " + first);
            m.property(first, 5, -1, 0);
        }
        Check.same("nobody is left", Portrait.had(m, 17, 5), "-");
    }
}
