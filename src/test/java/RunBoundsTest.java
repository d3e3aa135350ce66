/** Promises 5 to 7: how much fuel is used, and what stays and what goes when a run is over and when one begins. */
final class RunBoundsTest implements Instructions {
    public static void main(String[] args) {
        fuel();
        fuelIsUsedUp();
        justEnough();
        endsAtMostFuel();
        overInEachWay();
        framesAfterwards();
        pointsGo();
        begun();
        selfAndFound();
        stops();
        Check.end();
    }

    /** A round has five instructions, from place 7 on; local 0 counts the rounds. */
    private static final int[] ROUNDS = {0, 1, 0, BYTE, 0, INTO, 0, LOCAL, 0, BYTE, 1, PLUS, INTO, 0, JUMP, -9};
    private static final int[] PLACES = {7, 9, 11, 12, 14};

    private static int done(TaleMachine m) {
        for (int i = 0; i < PLACES.length; i++) {
            if (m.show(1) == PLACES[i]) {
                return 5 * (m.stack(0, 1) - (i == 4 ? 1 : 0)) + i;
            }
        }
        return -1;
    }

    /** "At most fuel instructions are done (below 0 counts as 0, above 3000 as 3000)". */
    private static void fuel() {
        int[] fuels = {Integer.MIN_VALUE, Integer.MIN_VALUE + 1, -3001, -3000, -2, -1, 0, 1, 2, 3, 4, 5, 6, 2998, 2999, 3000,
            3001, 3002, 6000, 32768, 65536, 65537, 1 << 24, Integer.MAX_VALUE - 1, Integer.MAX_VALUE};
        for (int fuel : fuels) {
            TaleMachine m = Story.begun("rounds", ROUNDS).then(Call.run(2)).machine();
            Check.same("run(" + fuel + ")", m.run(fuel), 0);
            Check.same("done by run(" + fuel + ")", done(m), Math.max(0, Math.min(3000, fuel)));
        }
    }

    /** Each run has its own fuel: nothing is kept for the next, and nothing missing. */
    private static void fuelIsUsedUp() {
        TaleMachine m = Story.begun("rounds", ROUNDS).then(Call.run(2)).machine();
        int due = 0;
        for (int fuel : new int[] {3001, -5, 0, 1, 2999, Integer.MIN_VALUE, Integer.MAX_VALUE, 7}) {
            m.run(fuel);
            due += Math.max(0, Math.min(3000, fuel));
            Check.same("done up to run(" + fuel + ")", done(m), due);
        }
    }

    /** With one instruction less the run goes on, with just as many or more it is over, in each way. */
    private static void justEnough() {
        int[][] endings = {{END, 1}, {THROW, 2}, {PLUS, 3}};
        for (int[] ending : endings) {
            for (int before = 0; before <= 5; before++) {
                int[] code = Tale.join(Tale.bytes(0, 0, 0), Tale.times(before, NOTHING), Tale.bytes(PUT_OBJECT, 1, ending[0]));
                Check.same("one less", Tale.begun(code).run(before + 1), 0);
                Check.same("as many", Tale.begun(code).run(before + 2), ending[1]);
                Check.same("more", Tale.begun(code).run(before + 3), ending[1]);
            }
        }
        Check.same("the first one", Tale.begun(0, 0, 0, END_NIL).run(1), 1);
        Check.same("not without fuel", Tale.begun(0, 0, 0, END_NIL).run(0), 0);
        Check.same("a first fault", Tale.begun(0, 0, 0, DROP).run(1), 3);
        Check.same("no fault without fuel", Tale.begun(0, 0, 0, DROP).run(0), 0);
        Check.same("no place, no fault without fuel", Tale.begun(0, 0, 0).run(0), 0);
    }

    /** A run of just so many instructions: rounds of seven that count local 0 down, and some that do nothing. */
    private static TaleMachine lasting(int instructions) {
        int rounds = (instructions - 5) / 7;
        int rest = (instructions - 5) % 7;
        return Tale.begun(Tale.join(Tale.bytes(0, 1, 0, WORD, 0, 0, rounds >> 8, rounds, INTO, 0), Tale.times(rest, NOTHING),
                Tale.bytes(LOCAL, 0, UNLESS, 9, LOCAL, 0, BYTE, 1, MINUS, INTO, 0, JUMP, -13, END_NIL)));
    }

    private static void endsAtMostFuel() {
        for (int fuel : new int[] {2999, 3000, 3001, Integer.MAX_VALUE}) {
            for (int instructions = 2998; instructions <= 3002; instructions++) {
                boolean enough = instructions <= Math.min(fuel, 3000);
                TaleMachine m = lasting(instructions);
                Check.same(instructions + " instructions, run(" + fuel + ")", m.run(fuel), enough ? 1 : 0);
                Check.same("and then", m.run(3), 1);
            }
        }
    }

    /** "Answers 0 when the run goes on, 1, 2 or 3 as it was over (the same again), -1 when none has begun". */
    private static void overInEachWay() {
        int[] due = {-1, -1, 0, 1, 2, 3, 4};
        for (int i = 0; i < due.length; i++) {
            TaleMachine m = Stories.ALL.get(i).machine();
            Check.same(Stories.ALL.get(i).name(), m.run(0), due[i]);
            Check.same("again", m.run(0), due[i]);
        }
    }

    /** "frames stay as they are after a FAULT or a stop"; after an end or uncaught there are none, and no values. */
    private static void framesAfterwards() {
        String under = Portrait.of(Stories.UNDER_WAY.machine());
        String points = "shown 2 7 16 2 ";
        Check.yes("two points", under.startsWith(points));
        Check.same("stopped: all but the points", Portrait.of(Stories.STOPPED.machine()),
                under.replace(points, "shown 2 7 16 0 "));
        TaleMachine fault = Stories.FAULT.machine();
        Check.same("fault", fault.show(0) + " self " + fault.show(2) + " stack " + Tale.stack(fault),
                "1 self 2 stack 0:0 3:16 1:1");
        for (Story story : new Story[] {Stories.ENDED, Stories.UNCAUGHT}) {
            TaleMachine m = story.machine();
            Check.same(story.name(), m.show(0) + " stack " + Tale.stack(m), "0 stack ");
        }
        Check.same("said stays", Stories.ENDED.machine().show(5) + " " + Stories.UNCAUGHT.machine().said(0, 1), "9 5");
        Check.same("objects stay", Stories.UNCAUGHT.machine().show(4), 5);
    }

    /** "When a run is over, all points go": one, two or three of them, in each way; not while it goes on. */
    private static void pointsGo() {
        int[][] endings = {{END, 1}, {THROW, 2}, {PLUS, 3}};
        for (int n = 0; n <= 4; n++) {
            int[] code = Tale.join(Tale.bytes(0, 0, 0), Tale.times(n, POINT), Tale.bytes(PUT_OBJECT, 1));
            for (int[] ending : endings) {
                TaleMachine m = Tale.begun(Tale.join(code, Tale.bytes(ending[0])));
                m.run(n + 1);
                Check.same("while it goes on", m.show(3), Math.min(n, 3));
                Check.same("then", m.run(1) + " " + m.show(3), ending[1] + " 0");
            }
            TaleMachine m = Tale.begun(code);
            m.run(n + 1);
            Check.yes("stopped", m.stop());
            Check.same("then", m.show(3), 0);
        }
    }

    /** begin: "Frames, what was said, and the result are gone; objects and what was saved stay", after each way. */
    private static void begun() {
        for (Story story : Stories.OVER) {
            Story again = story.then(Call.begin(1, 5));
            TaleMachine m = again.machine();
            Check.same(story.name() + ", begun", m.show(0) + " self " + m.show(2) + " points " + m.show(3) + " said " + m.show(5)
                    + " stack " + Tale.stack(m) + " run " + m.run(0), "1 self 1 points 0 said 0 stack 0:0 run 0");
            Check.same("result", Call.said(-1, 0).on(m) + " " + Call.said(0, 0).on(m),
                    "NoSuchElementException NoSuchElementException");
            Check.same("objects", Portrait.objects(m), Portrait.objects(story.machine()));
        }
    }

    /** "what object o has for property p is called .., SELF being o", FOUND the one whose own value it is. */
    private static void selfAndFound() {
        for (int holder = 0; holder <= 2; holder++) {
            TaleMachine m = Tale.with(0, 0, 0, INHERITED, 0, 1, END);
            m.property(0, 1, NUMBER, 50);
            m.property(1, 1, NUMBER, 51);
            m.property(2, 1, NUMBER, 52);
            m.property(holder, 0, METHOD, 0);
            m.begin(2, 0);
            Check.same("SELF", m.show(2), 2);
            Check.same("behind " + holder, Tale.rest(m), "1 said result " + (holder == 0 ? "0:0" : "2:" + (49 + holder)));
        }
    }

    /** "The run under way is over (4: run answers that then); false when there is none". */
    private static void stops() {
        for (Story story : new Story[] {Stories.UNDER_WAY, Stories.IDLE.then(Call.begin(2, 7)).named("just begun")}) {
            TaleMachine m = story.machine();
            Check.yes(story.name(), m.stop());
            Check.same("run", m.run(3000), 4);
            Check.no("again", m.stop());
            Check.same("run again", m.run(0), 4);
            m.begin(2, 7);
            Check.same("another", m.run(0), 0);
            Check.yes("and that", m.stop());
        }
    }
}
