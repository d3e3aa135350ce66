import java.util.ArrayList;
import java.util.List;

/**
 * Runs that mix the sentences: what is asked for between two calls of run and after a run is over, and what can be done
 * there. The objects are 0; 1 of 0; 2 of 0; 3 of 1 and 2.
 */
final class BetweenTest implements Instructions {
    public static void main(String[] args) {
        stepByStep();
        howeverTheFuelIsShared();
        askingChangesNothing();
        refusedCallsChangeNothing();
        codeBetween();
        collectBetween();
        overInEachWay();
        changedWhenOver();
        oneRunAfterAnother();
        Check.end();
    }

    private static final Book BOOK = new Book();

    /** Property 3 of 0: sets a point and makes an object, whose own 4 is its argument; ends with that object. */
    private static final int MAKER = BOOK.method(1, 1,
            POINT, MAKE, 3, INTO, 1, LOCAL, 0, LOCAL, 1, SET, 4, LOCAL, 1, END);

    /** Property 3 of 2: says FOUND's number, and goes on behind it with its argument and one more. */
    private static final int ADDER = BOOK.method(1, 0, BYTE, 2, SAY, LOCAL, 0, BYTE, 1, PLUS, INHERITED, 1, 3, END);

    /** Property 0 of 1: asks SELF for 3, and what comes of it for 4; undoes; throws 1, and says what it caught. */
    private static final int OUTER = BOOK.handling(0, 1, new int[][] {{17, 18, 0, 19}},
            BYTE, 40, SELF, ASK, 1, 3, AGAIN, INTO, 0, ASK, 0, 4, SAY, UNDO, SAY, PUT_OBJECT, 1, THROW, END,
            SAY, LOCAL, 0, END);

    /** Property 1 of 1: ends uncaught; property 2 of 1: a fault; both after something was made and said. */
    private static final int UNCAUGHT = BOOK.method(0, 1, POINT, MAKE, 2, AGAIN, SAY, CALL, 1, 0, BOOK.next() + 13, END,
            1, 0, 0, LOCAL, 0, THROW);
    private static final int FAULT = BOOK.method(0, 1, POINT, MAKE, 2, AGAIN, SAY, CALL, 1, 0, BOOK.next() + 13, END,
            1, 0, 0, LOCAL, 0, PLUS);

    private static final Story READY = Story.of("ready").then(Call.object(-1, -1, -1), Call.object(0, -1, -1),
            Call.object(0, -1, -1), Call.object(1, 2, -1)).write(BOOK.code()).then(
            Call.property(0, 3, METHOD, MAKER), Call.property(2, 3, METHOD, ADDER), Call.property(1, 0, METHOD, OUTER),
            Call.property(1, 1, METHOD, UNCAUGHT), Call.property(1, 2, METHOD, FAULT));

    /** Frames, place, SELF, points, objects, how many were said; then the stack, and what 16 has for 4. */
    private static String seen(TaleMachine m) {
        StringBuilder text = new StringBuilder();
        for (int what = 0; what <= 5; what++) {
            String answer = Call.show(what).on(m);
            text.append(answer.endsWith("Exception") ? "-" : answer).append(' ');
        }
        return text.append("| ").append(Tale.stack(m)).append(" | ").append(Portrait.had(m, 16, 4)).toString();
    }

    /** A run with three frames, a made object, a point, an undoing and a throw, looked at after each instruction. */
    private static void stepByStep() {
        int o = OUTER + 7;
        int a = ADDER + 3;
        int k = MAKER + 3;
        String[] due = {
            "1 " + o + " 3 0 4 0 | 0:0 | -",
            "1 " + (o + 2) + " 3 0 4 0 | 0:0 2:40 | -",
            "1 " + (o + 3) + " 3 0 4 0 | 0:0 2:40 3:3 | -",
            "2 " + a + " 3 0 4 0 | 0:0 2:40 | -",
            "2 " + (a + 2) + " 3 0 4 0 | 0:0 2:40 2:2 | -",
            "2 " + (a + 3) + " 3 0 4 1 | 0:0 2:40 | -",
            "2 " + (a + 5) + " 3 0 4 1 | 0:0 2:40 2:40 | -",
            "2 " + (a + 7) + " 3 0 4 1 | 0:0 2:40 2:40 2:1 | -",
            "2 " + (a + 8) + " 3 0 4 1 | 0:0 2:40 2:41 | -",
            "3 " + k + " 3 0 4 1 | 0:0 2:40 2:41 0:0 | -",
            "3 " + (k + 1) + " 3 1 4 1 | 0:0 2:40 2:41 0:0 | -",
            "3 " + (k + 3) + " 3 1 5 1 | 0:0 2:40 2:41 0:0 3:16 | -",
            "3 " + (k + 5) + " 3 1 5 1 | 0:0 2:40 2:41 3:16 | -",
            "3 " + (k + 7) + " 3 1 5 1 | 0:0 2:40 2:41 3:16 2:41 | -",
            "3 " + (k + 9) + " 3 1 5 1 | 0:0 2:40 2:41 3:16 2:41 3:16 | -",
            "3 " + (k + 11) + " 3 1 5 1 | 0:0 2:40 2:41 3:16 | 2:41@16",
            "3 " + (k + 13) + " 3 1 5 1 | 0:0 2:40 2:41 3:16 3:16 | 2:41@16",
            "2 " + (a + 11) + " 3 1 5 1 | 0:0 2:40 3:16 | 2:41@16",
            "1 " + (o + 6) + " 3 1 5 1 | 0:0 3:16 | 2:41@16",
            "1 " + (o + 7) + " 3 1 5 1 | 0:0 3:16 3:16 | 2:41@16",
            "1 " + (o + 9) + " 3 1 5 1 | 3:16 3:16 | 2:41@16",
            "1 " + (o + 12) + " 3 1 5 1 | 3:16 2:41 | 2:41@16",
            "1 " + (o + 13) + " 3 1 5 2 | 3:16 | 2:41@16",
            "1 " + (o + 14) + " 3 0 4 2 | 3:16 1:1 | -",
            "1 " + (o + 15) + " 3 0 4 3 | 3:16 | -",
            "1 " + (o + 17) + " 3 0 4 3 | 3:16 3:1 | -",
            "1 " + (o + 19) + " 3 0 4 3 | 3:16 3:1 | -",
            "1 " + (o + 20) + " 3 0 4 4 | 3:16 | -",
            "1 " + (o + 22) + " 3 0 4 4 | 3:16 3:16 | -"};
        for (int i = 0; i < due.length; i++) {
            TaleMachine m = READY.then(Call.begin(3, 0)).machine();
            for (int done = 0; done < i; done++) {
                Check.same("goes on", m.run(1), 0);
            }
            Check.same("after " + i + " instructions", seen(m), due[i]);
            Check.same("asked again", seen(m), due[i]);
            Check.same("no result yet", Call.said(-1, 0).on(m), "NoSuchElementException");
        }
        TaleMachine m = READY.then(Call.begin(3, 0), Call.run(due.length - 1)).machine();
        Check.same("the end", m.run(1) + " " + seen(m), "1 0 - - 0 4 4 |  | -");
        Check.same("said", Tale.rest(m), "1 said 2:2 2:41 1:1 3:1 result 3:16");
    }

    private static final int[] LENGTHS = {29, 7, 7};

    /** Whether one by one or in greater parts: after as many instructions all is the same. */
    private static void howeverTheFuelIsShared() {
        for (int p = 0; p <= 2; p++) {
            for (int done = 0; done <= LENGTHS[p] + 1; done++) {
                TaleMachine whole = READY.then(Call.begin(3, p)).machine();
                int outcome = whole.run(done);
                Check.same("over", outcome != 0, done >= LENGTHS[p]);
                String due = outcome + " " + Portrait.of(whole);
                for (int part : new int[] {1, 2, 3, 5, 8}) {
                    TaleMachine m = READY.then(Call.begin(3, p)).machine();
                    for (int left = done; left > 0; left -= part) {
                        m.run(Math.min(left, part));
                    }
                    Check.same(p + ": " + done + " instructions by " + part, m.run(0) + " " + Portrait.of(m), due);
                }
            }
        }
    }

    /** Every kind of asking, between every two instructions, with arguments right and wrong. */
    private static final Call[] ASKING = {
        Call.run(0), Call.run(-1), Call.stack(0, 0), Call.stack(1, 1), Call.stack(40, 0), Call.stack(0, 2),
        Call.show(0), Call.show(1), Call.show(2), Call.show(3), Call.show(4), Call.show(5), Call.show(6),
        Call.said(0, 0), Call.said(-1, 0), Call.said(50, 1), Call.has(3, 3, 2), Call.has(16, 4, 1), Call.has(3, 8, 0),
        Call.isOf(16, 2), Call.isOf(3, 0), Call.isOf(31, 31)};

    private static void askingChangesNothing() {
        for (int p = 0; p <= 2; p++) {
            TaleMachine quiet = READY.then(Call.begin(3, p), Call.run(3000)).machine();
            String due = Portrait.of(quiet);
            for (Call call : ASKING) {
                TaleMachine m = READY.then(Call.begin(3, p)).machine();
                for (int i = 0; i < LENGTHS[p]; i++) {
                    call.on(m);
                    m.run(1);
                    call.on(m);
                }
                Check.same(p + " with " + call.text(), Portrait.of(m), due);
            }
        }
    }

    /** Calls that are refused while a run is under way, between every two instructions. */
    private static void refusedCallsChangeNothing() {
        Call[] refused = {Call.object(-1, -1, -1), Call.object(9, -1, -1), Call.property(3, 3, NUMBER, 5),
            Call.property(3, 3, -1, 0), Call.property(16, 4, NIL, 0), Call.begin(3, 0), Call.begin(3, 1), Call.begin(3, 7),
            Call.code(0, 0), Call.code(0, 5)};
        String[] due = {"IllegalStateException", "IllegalArgumentException", "IllegalStateException",
            "IllegalStateException", "", "IllegalStateException", "IllegalStateException", "IllegalArgumentException",
            "false", "false"};
        for (int p = 0; p <= 2; p++) {
            String quiet = Portrait.of(READY.then(Call.begin(3, p), Call.run(3000)).machine());
            for (int i = 0; i < refused.length; i++) {
                TaleMachine m = READY.then(Call.begin(3, p)).machine();
                for (int done = 0; done < LENGTHS[p]; done++) {
                    String there = m.isOf(16, 16) ? "IllegalStateException" : "NoSuchElementException";
                    Check.same(refused[i].text(), refused[i].on(m), due[i].isEmpty() ? there : due[i]);
                    m.run(1);
                }
                Check.same(p + " with " + refused[i].text(), Portrait.of(m), quiet);
            }
        }
    }

    /** A method that is called is completed between two calls of run, while it is running. */
    private static void codeBetween() {
        TaleMachine m = Tale.begun(0, 0, 0, BYTE, 3, CALL, 1, 0, 10, END, 1, 0);
        Check.same("no whole method", m.run(1), 0);
        Check.yes("its head", m.code(1, 1));
        Check.yes("a handler of 0 around 0 .. 9, on to 3", m.code(0x00090003, 4));
        Check.same("called", m.run(1) + " " + m.show(0) + " " + m.show(1), "0 2 17");
        Check.yes("PUT_OBJECT 2", m.code(PUT_OBJECT << 8 | 2, 2));
        Check.same("put", m.run(1) + " " + Tale.stack(m), "0 2:3 3:2");
        Check.yes("THROW", m.code(THROW, 1));
        Check.same("thrown, on to what is not there yet", m.run(1) + " " + m.show(1), "0 20");
        Check.yes("END", m.code(END, 1));
        Check.same("the end", Tale.rest(m), "1 said result 3:2");
    }

    /** What goes between two instructions is not there for the next one; a number that is free is the next one's. */
    private static void collectBetween() {
        TaleMachine m = Tale.begun(0, 1, 0, MAKE, 1, MAKE, 2, INTO, 0, PUT_OBJECT, 1, SET, 0, MAKE, 0, SAY,
                PUT_OBJECT, 16, DROP, MAKE, 2, SAY, PUT_OBJECT, 18, END);
        Check.same("nothing made yet", m.collect(), 0);
        m.run(5);
        Check.same("1 has 16, 17 is a local", m.collect() + " " + Portrait.had(m, 2, 0), "0 3:16@1");
        m.run(2);
        Check.same("18 was only said", m.collect() + " " + m.show(4) + " " + m.said(0, 1), "1 5 18");
        m.run(2);
        Check.same("nothing else", m.collect(), 0);
        m.run(1);
        Check.same("18 again, now of 2", Tale.stack(m) + " " + m.isOf(18, 2), "3:17 3:18 true");
        m.run(1);
        Check.same("and it goes again", m.collect(), 1);
        Check.same("so it cannot be put", Tale.rest(m), "3 said 3:18 3:18 at 22");
        Check.same("after the fault 17 is still a local", m.collect() + " " + m.isOf(17, 2), "0 true");
        m.property(1, 0, NIL, 0);
        Check.same("and 1 has 16 no more", m.collect() + " " + m.isOf(16, 1), "1 false");
    }

    /** All that is asked for when a run is over, in each of the four ways. */
    private static void overInEachWay() {
        TaleMachine ended = READY.then(Call.begin(3, 0), Call.run(3000)).machine();
        Check.same("ended", ended.run(5) + " " + seen(ended) + " " + ended.stop(), "1 0 - - 0 4 4 |  | - false");
        Check.same("its result", ended.said(-1, 0) + ":" + ended.said(-1, 1), "3:16");
        Check.no("which is not there", ended.isOf(16, 16));
        TaleMachine uncaught = READY.then(Call.begin(3, 1), Call.run(3000)).machine();
        Check.same("uncaught", uncaught.run(5) + " " + seen(uncaught) + " " + uncaught.stop(), "2 0 - - 0 5 1 |  | - false");
        Check.same("its result", uncaught.said(-1, 0) + ":" + uncaught.said(-1, 1) + " " + uncaught.isOf(16, 2), "3:16 true");
        TaleMachine fault = READY.then(Call.begin(3, 2), Call.run(3000)).machine();
        Check.same("fault", fault.run(5) + " " + seen(fault) + " " + fault.stop(),
                "3 2 " + (FAULT + 18) + " -1 0 5 1 | 0:0 3:16 3:16 | - false");
        Check.same("no result", Call.said(-1, 0).on(fault) + " " + fault.said(0, 1), "NoSuchElementException 16");
        TaleMachine stopped = READY.then(Call.begin(3, 1), Call.run(6), Call.stop()).machine();
        Check.same("stopped", stopped.run(5) + " " + seen(stopped) + " " + stopped.stop(),
                "4 2 " + (UNCAUGHT + 18) + " -1 0 5 1 | 0:0 3:16 3:16 | - false");
        Check.same("no result", Call.said(-1, 1).on(stopped) + " " + stopped.said(0, 0), "NoSuchElementException 3");
    }

    /** When it is over objects can be changed and made from outside: neither frames nor what was said change by it. */
    private static void changedWhenOver() {
        List<Story> over = new ArrayList<>();
        over.add(READY.then(Call.begin(3, 1), Call.run(3000)).named("uncaught"));
        over.add(READY.then(Call.begin(3, 2), Call.run(3000)).named("fault"));
        over.add(READY.then(Call.begin(3, 1), Call.run(6), Call.stop()).named("stopped"));
        for (Story story : over) {
            TaleMachine m = story.machine();
            String shown = m.show(0) + Tale.stack(m) + m.said(0, 1) + m.run(0);
            m.property(16, 4, OBJECT, 16);
            m.property(2, 5, NUMBER, 6);
            Check.same(story.name(), Portrait.had(m, 16, 4) + " " + Portrait.had(m, 16, 5), "3:16@16 2:6@2");
            Check.same("a fixed object", m.object(3, 2, -1) + " " + m.show(4), "4 6");
            Check.same("of the others", m.isOf(4, 1) + " " + Portrait.had(m, 4, 5), "true 2:6@2");
            Check.yes("code", m.code(0x000000, 3));
            Check.same("as they were", m.show(0) + Tale.stack(m) + m.said(0, 1) + m.run(0), shown);
            Check.same("16 is come to", m.collect() + " " + m.isOf(16, 2), "0 true");
            m.begin(4, 0);
            Check.same("until another run begins", m.collect() + " " + m.show(5) + " " + m.show(2), "1 0 4");
        }
    }

    /** Runs one after another on the same objects: what one leaves the next one finds. */
    private static void oneRunAfterAnother() {
        TaleMachine m = Story.with("counting", 0, 0, 0, SELF, ASK, 0, 1, BYTE, 1, PLUS, AGAIN, SELF, SET, 1, END)
                .then(Call.property(0, 7, METHOD, 0), Call.property(0, 1, NUMBER, 10)).machine();
        for (int round = 1; round <= 4; round++) {
            m.begin(2, 7);
            Check.same("2 counts", Tale.rest(m), "1 said result 2:" + (10 + round));
        }
        Check.same("for itself", Portrait.had(m, 2, 1) + " " + Portrait.had(m, 1, 1), "2:14@2 2:10@0");
        m.begin(1, 7);
        m.run(6);
        Check.yes("stopped before it is set", m.stop());
        Check.same("nothing was set", Portrait.had(m, 1, 1), "2:10@0");
        m.begin(1, 7);
        Check.same("1 counts", Tale.rest(m), "1 said result 2:11");
        m.property(2, 1, -1, 0);
        m.begin(2, 7);
        Check.same("2 goes on from 1's", Tale.rest(m) + " " + Portrait.had(m, 1, 1), "1 said result 2:12 2:11@1");
        m.property(2, 1, TRUE, 0);
        m.begin(2, 7);
        Check.same("TRUE is no NUMBER", Tale.rest(m), "3 said at 9");
        m.property(2, 1, NUMBER, 0);
        m.begin(2, 7);
        Check.same("and from 0 on", Tale.rest(m), "1 said result 2:1");
    }
}
