import java.util.Arrays;

/** Terms: at most 50 values said, more than 3 points, and states saved in 0 or 1. */
final class HistoryBoundsTest implements Instructions {
    public static void main(String[] args) {
        sayings();
        saidAnew();
        points();
        undoing();
        undoneWithoutAPoint();
        allMadeSince();
        allWentByCollecting();
        everyValueComesBack();
        slots();
        noSuchSlots();
        slotsAreTwo();
        pointsWhenBroughtBack();
        onlyObjects();
        savedStays();
        savedGoes();
        Check.end();
    }

    private static final int[] SAYING = {0, 1, 0, BYTE, 1, LOCAL, 0, NOT, SAY, JUMP, -6};

    /** After the first instruction each round of four says one value; SAY is next. */
    private static Story saying(int already) {
        return Story.begun("a value said after " + already, SAYING).then(Call.run(3 + 4 * already));
    }

    /** "SAID (at most 50 are)"; "a 51st value said": the 50th is said, the 51st is a fault and is not taken. */
    private static void sayings() {
        for (int already : new int[] {0, 1, 48, 49}) {
            TaleMachine m = Twins.done(saying(already), 0);
            Check.same("said", m.show(5) + " " + m.said(already, 0) + ":" + m.said(already, 1), (already + 1) + " 1:1");
            Check.same("and taken", Tale.stack(m), "0:0 2:1");
            Check.same("no more", Call.said(already + 1, 0).on(m), "NoSuchElementException");
        }
        Twins.fault(saying(50));
        TaleMachine m = saying(50).then(Call.run(1)).machine();
        Check.same("50, and the 51st on the stack", m.show(5) + " " + Tale.stack(m), "50 0:0 2:1 1:1");
        Check.same("the 50th", m.said(49, 1) + " " + Call.said(50, 1).on(m), "1 NoSuchElementException");
    }

    /** Another run can say 50 again. */
    private static void saidAnew() {
        Story again = saying(50).then(Call.run(1), Call.begin(2, 7));
        Check.same("gone", again.machine().show(5), 0);
        TaleMachine m = again.then(Call.run(3 + 4 * 49)).machine();
        Check.same("49", m.show(5), 49);
        Check.same("the 50th", m.run(1) + " " + m.show(5), "0 50");
        Check.same("the 51st", m.run(4) + " " + m.show(5), "3 50");
    }

    /** Before the i-th of n points object 0's property 0 is i; then it is 99; then UNDO six times. */
    private static Story pointed(int n) {
        int[] code = {0, 0, 0};
        for (int i = 1; i <= n; i++) {
            code = Tale.join(code, Tale.bytes(BYTE, i, PUT_OBJECT, 0, SET, 0, POINT));
        }
        return Story.begun(n + " points", Tale.join(code, Tale.bytes(BYTE, 99, PUT_OBJECT, 0, SET, 0),
                Tale.times(6, UNDO, DROP), Tale.bytes(END_NIL))).then(Call.run(4 * n + 3));
    }

    /** "31 sets a POINT; with more than 3 the oldest goes". */
    private static void points() {
        for (int n = 0; n <= 9; n++) {
            Check.same(n + " points", pointed(n).machine().show(3), Math.min(n, 3));
        }
    }

    /** "all objects are as they were when the latest one was set, the point goes, and TRUE is put; otherwise NIL". */
    private static void undoing() {
        for (int n = 0; n <= 9; n++) {
            TaleMachine m = pointed(n).machine();
            int held = Math.min(n, 3);
            String has = "2:99@0";
            for (int undone = 1; undone <= 6; undone++) {
                m.run(1);
                has = undone <= held ? "2:" + (n - undone + 1) + "@0" : has;
                Check.same(n + " points, undone " + undone, Tale.stack(m), undone <= held ? "1:1" : "0:0");
                Check.same("as it was", Portrait.had(m, 0, 0), has);
                Check.same("points", m.show(3), Math.max(0, held - undone));
                m.run(1);
            }
        }
    }

    private static void undoneWithoutAPoint() {
        Story story = Story.begun("nothing to undo", 0, 0, 0, MAKE, 1, PUT_OBJECT, 0, SET, 3, SAVE, 0, UNDO, END)
                .then(Call.run(4));
        String before = Portrait.objects(story.machine());
        TaleMachine m = Twins.done(story, 0);
        Check.same("NIL", Tale.stack(m), "0:0");
        Check.same("objects", Portrait.objects(m), before);
    }

    /** "also those that were made since": all 16 of them go. */
    private static void allMadeSince() {
        TaleMachine m = Story.begun("16 made", Tale.join(Tale.bytes(0, 0, 0, POINT), Tale.times(16, MAKE, 2, DROP),
                Tale.bytes(UNDO, MAKE, 1))).then(Call.run(33)).machine();
        Check.same("made", m.show(4), 19);
        Check.same("undone", m.run(1) + " " + m.show(4) + " " + m.isOf(16, 16) + m.isOf(31, 31), "0 3 falsefalse");
        Check.same("numbers are free again", m.run(1) + " " + Tale.stack(m) + " " + m.isOf(16, 2), "0 1:1 3:16 false");
    }

    /** "or went by collecting": all 16 come back, with their parents and own values, by a point and from a slot. */
    private static void allWentByCollecting() {
        int[][] ways = {{POINT, NOTHING, UNDO, NOTHING}, {SAVE, 0, LOAD, 0}, {SAVE, 1, LOAD, 1}};
        for (int[] way : ways) {
            int[] make = Tale.join(Tale.times(15, MAKE, 2, DROP), Tale.bytes(MAKE, 30, DROP, BYTE, 7, PUT_OBJECT, 31, SET, 3));
            Story story = Story.begun("16 went, " + way[0], Tale.join(Tale.bytes(0, 0, 0), make, way))
                    .then(Call.run(35 + (way[0] == POINT ? 2 : 1)));
            String before = Portrait.objects(story.machine());
            TaleMachine m = story.machine();
            Check.same("all go", m.collect() + " " + m.show(4), "16 3");
            Check.same("and come back", m.run(1) + " " + m.show(4), "0 19");
            Check.same("as they were", Portrait.objects(m), before);
            Check.same("also this", m.isOf(31, 30) + " " + Portrait.had(m, 31, 3), "true 2:7@31");
        }
    }

    private static final int[] EDGES = {0, 15, 16, 31};

    private static String edges(TaleMachine m) {
        StringBuilder text = new StringBuilder();
        for (int o : EDGES) {
            text.append(Portrait.had(m, o, 0)).append(' ').append(Portrait.had(m, o, 7)).append(' ');
        }
        return text.toString().trim();
    }

    /** "all objects are as they were": the first and the last property of the first and the last objects. */
    private static void everyValueComesBack() {
        int[] first = Tale.join(Tale.bytes(0, 0, 0), Tale.times(16, MAKE, 0, DROP), Tale.bytes(END_NIL));
        int[][] ways = {{POINT, UNDO}, {SAVE, 0, LOAD, 0}, {SAVE, 1, LOAD, 1}};
        for (int[] way : ways) {
            int half = way.length / 2;
            int[] second = Tale.join(Tale.bytes(0, 0, 0), Arrays.copyOf(way, half));
            for (int o : EDGES) {
                second = Tale.join(second, Tale.bytes(PUT_TRUE, PUT_OBJECT, o, SET, 0, PUT_TRUE, PUT_OBJECT, o, SET, 7));
            }
            Story story = Story.of("every value, " + way[0]);
            for (int o = 0; o < 16; o++) {
                story = story.then(Call.object(-1, -1, -1));
            }
            story = story.write(first).write(second).write(Arrays.copyOfRange(way, half, way.length))
                    .then(Call.property(0, 3, METHOD, 0), Call.property(0, 4, METHOD, first.length),
                            Call.begin(0, 3), Call.run(99));
            for (int o : EDGES) {
                story = story.then(Call.property(o, 0, NUMBER, o), Call.property(o, 7, NUMBER, 50 + o));
            }
            story = story.then(Call.begin(0, 4), Call.run(1 + 3 * 2 * EDGES.length));
            Check.same("changed", edges(story.machine()), "1:1@0 1:1@0 1:1@15 1:1@15 1:1@16 1:1@16 1:1@31 1:1@31");
            Check.same(story.name(), edges(Twins.done(story, 0)),
                    "2:0@0 2:50@0 2:15@15 2:65@15 2:16@16 2:66@16 2:31@31 2:81@31");
        }
    }

    /** "all objects as they are are SAVED in s (0 or 1)"; "if there is something saved in s, .. otherwise NIL". */
    private static void slots() {
        for (int s = 0; s <= 1; s++) {
            Story story = Story.begun("slot " + s, 0, 0, 0, BYTE, 1, PUT_OBJECT, 0, SET, 0, SAVE, s,
                    BYTE, 2, PUT_OBJECT, 0, SET, 0, MAKE, 1, DROP, LOAD, s, LOAD, 1 - s).then(Call.run(9));
            Check.same("before", Portrait.had(story.machine(), 0, 0) + " " + story.machine().show(4), "2:2@0 4");
            TaleMachine m = Twins.done(story, 0);
            Check.same("brought back", Tale.stack(m) + " " + Portrait.had(m, 0, 0) + " " + m.show(4), "1:1 2:1@0 3");
            Check.same("nothing in the other", m.run(1) + " " + Tale.stack(m), "0 1:1 0:0");
            Check.same("and no change by it", Portrait.had(m, 0, 0), "2:1@0");
        }
    }

    /** "a .. number .. s .. that is not as said". */
    private static void noSuchSlots() {
        for (int s : new int[] {2, 3, 127, 128, 254, 255}) {
            Story story = Story.begun("", 0, 0, 0, SAVE, 0, SAVE, 1, MAKE, 1, PUT_OBJECT, 0, SET, 3).then(Call.run(5));
            Twins.fault(story.write(SAVE, s).named("save in " + s));
            Twins.fault(story.write(LOAD, s).named("bring back from " + s));
        }
    }

    /** The slots do not share anything, the last SAVE into each counts, and bringing back does not use it up. */
    private static void slotsAreTwo() {
        int[] code = {0, 0, 0};
        for (int i = 1; i <= 4; i++) {
            code = Tale.join(code, Tale.bytes(BYTE, i, PUT_OBJECT, 0, SET, 0, SAVE, i & 1));
        }
        TaleMachine m = Tale.begun(Tale.join(code, Tale.times(2, LOAD, 0, DROP, LOAD, 1, DROP)));
        m.run(16);
        for (int round = 0; round < 2; round++) {
            Check.same("0", m.run(2) + " " + Portrait.had(m, 0, 0), "0 2:4@0");
            Check.same("1", m.run(2) + " " + Portrait.had(m, 0, 0), "0 2:3@0");
        }
        TaleMachine changed = Tale.begun(0, 0, 0, BYTE, 1, PUT_OBJECT, 0, SET, 0, SAVE, 1,
                LOAD, 1, DROP, BYTE, 2, PUT_OBJECT, 0, SET, 0, LOAD, 1);
        Check.same("changed after it was brought back", changed.run(9) + " " + Portrait.had(changed, 0, 0), "0 2:2@0");
        Check.same("and brought back again", changed.run(1) + " " + Portrait.had(changed, 0, 0), "0 2:1@0");
    }

    /** 34: "all points go" if something is brought back; if there is nothing they stay, and can be undone. */
    private static void pointsWhenBroughtBack() {
        for (int n = 0; n <= 4; n++) {
            for (int s = 0; s <= 1; s++) {
                Story story = Story.begun(n + " points, slot " + s, Tale.join(Tale.bytes(0, 0, 0, SAVE, 0),
                        Tale.times(n, POINT), Tale.bytes(MAKE, 1, DROP, LOAD, s, UNDO))).then(Call.run(3 + n));
                Check.same("before", story.machine().show(3), Math.min(n, 3));
                TaleMachine m = Twins.done(story, 0);
                Check.same(story.name(), m.show(3), s == 0 ? 0 : Math.min(n, 3));
                Check.same("then undone", m.run(1) + " " + Tale.stack(m),
                        "0 " + (s == 0 ? "1:1 0:0" : n == 0 ? "0:0 0:0" : "0:0 1:1"));
            }
        }
    }

    /** Neither undoing nor bringing back touches the frames, the stack, locals, or what was said. */
    private static void onlyObjects() {
        int[][] ways = {{POINT, UNDO}, {SAVE, 0, LOAD, 0}, {SAVE, 1, LOAD, 1}};
        for (int[] way : ways) {
            int half = way.length / 2;
            int[] code = Tale.join(Tale.bytes(0, 1, 0), Arrays.copyOf(way, half), Tale.bytes(
                    BYTE, 6, INTO, 0, BYTE, 7, SAY, BYTE, 8, SELF, ASK, 0, 6), new int[10]);
            int callee = code.length;
            Story story = Story.with("only objects, " + way[0], Tale.join(code, Tale.bytes(0, 1, 0, BYTE, 5, INTO, 0),
                    Arrays.copyOfRange(way, half, way.length)))
                    .then(Call.property(0, 6, METHOD, callee), Call.property(2, 7, METHOD, 0), Call.begin(2, 7), Call.run(10));
            TaleMachine m = Twins.done(story, 0);
            Check.same(story.name(), m.show(0) + " self " + m.show(2) + " " + Tale.stack(m), "2 self 2 2:6 2:8 2:5 1:1");
            Check.same("said", m.show(5) + " " + m.said(0, 1), "1 7");
        }
    }

    /** What was saved stays through the end of a run in each way, other runs, collecting, and changes from outside. */
    private static void savedStays() {
        int[] code = {0, 0, 0, MAKE, 1, DROP, SAVE, 0, SAVE, 1, PUT_OBJECT, 2, NOTHING};
        int[][] endings = {{END}, {THROW}, {PLUS}, {NOTHING}};
        for (int[] ending : endings) {
            Story story = Story.begun("saved, then " + ending[0], Tale.join(code, ending, Tale.bytes(0, 0, 0, LOAD, 0, END),
                    Tale.bytes(0, 0, 0, LOAD, 1, END))).then(Call.run(7));
            for (int s = 0; s <= 1; s++) {
                TaleMachine m = story.machine();
                m.stop();
                Check.same("16 goes", m.collect() + " " + m.show(4), "1 3");
                m.property(0, 0, NUMBER, 5);
                m.property(1, 0, METHOD, 14 + 6 * s);
                m.begin(1, 0);
                Check.same(story.name(), m.run(9) + " " + m.said(-1, 0) + " " + m.show(4) + Portrait.had(m, 0, 0), "1 1 4-");
            }
        }
    }

    /** object: "What was saved is gone", in both slots; a refused one leaves it. */
    private static void savedGoes() {
        Story story = Story.begun("saved", 0, 0, 0, SAVE, 0, SAVE, 1, END_NIL, 0, 0, 0, LOAD, 0, SAY, LOAD, 1, END)
                .then(Call.run(9), Call.property(2, 6, METHOD, 8));
        TaleMachine kept = story.machine();
        Check.same("refused", Call.object(3, -1, -1).on(kept), "IllegalArgumentException");
        kept.begin(2, 6);
        Check.same("kept", Tale.rest(kept), "1 said 1:1 result 1:1");
        TaleMachine gone = story.machine();
        Check.same("made", gone.object(-1, -1, -1), 3);
        gone.begin(2, 6);
        Check.same("gone", Tale.rest(gone), "1 said 0:0 result 0:0");
    }
}
