import java.util.List;

/**
 * Every "false, changing nothing", every "Throws, changing nothing" with each of its reasons, and every
 * "NoSuchElementException when", in every state that a run can have: the refused call answers as due, and
 * nothing that can be asked for then or later has changed (Twins).
 */
final class RefusalTest implements Instructions {
    private static final String NO_SUCH = "NoSuchElementException";
    private static final String ARGUMENT = "IllegalArgumentException";
    private static final String STATE = "IllegalStateException";

    public static void main(String[] args) {
        code();
        codeThatWouldBeTooLong();
        wrongParents();
        noObjectNow();
        propertyOfNoObject();
        wrongProperties();
        noPropertyNow();
        beginOfNoObject();
        noMethodToBegin();
        noBeginNow();
        run();
        stop();
        collect();
        stack();
        show();
        said();
        has();
        isOf();
        Check.end();
    }

    /** "false, changing nothing, when k is not as said" (1 .. 4). */
    private static void code() {
        for (int k : Stories.farAnd(-4, -1, 0, 5, 6, 8, 32)) {
            Twins.unchanged(Stories.ALL, Call.code(0x1A1A1A1A, k), false);
        }
    }

    /** "... or there would be more than 300": with every k at every length near 300, in every state. */
    private static void codeThatWouldBeTooLong() {
        for (Story story : Stories.ALL) {
            for (int length = 296; length <= 300; length++) {
                Story long_ = story.write(new int[length - story.length()]).named(story.name() + " with " + length);
                for (int k = 1; k <= 4; k++) {
                    if (length + k > 300) {
                        Twins.unchanged(long_, Call.code(0x1A1A1A1A, k), false);
                    } else {
                        Check.same(long_.name() + " and " + k, Call.code(-1, k).on(long_.machine()), "true");
                    }
                }
            }
        }
    }

    /** Numbers of which no fixed object is there, neither in a new machine nor among the stories' 0 .. 3. */
    private static int[] notFixed() {
        return Stories.farAnd(-2, 4, 15, 16, 17, 31, 32, 33);
    }

    /** "IllegalArgumentException when a parent is not as said": the first, the second and the third. */
    private static void wrongParents() {
        for (int wrong : notFixed()) {
            Twins.unchanged(Stories.ALL, Call.object(wrong, -1, -1), ARGUMENT);
            Twins.unchanged(Stories.PEOPLED, Call.object(3, wrong, -1), ARGUMENT);
            Twins.unchanged(Stories.PEOPLED, Call.object(3, 0, wrong), ARGUMENT);
        }
        Twins.unchanged(Stories.NEW, Call.object(0, -1, -1), ARGUMENT);
        Twins.unchanged(full(), Call.object(16, -1, -1), ARGUMENT);
    }

    private static Story full() {
        Story story = Stories.IDLE;
        for (int o = 4; o < 16; o++) {
            story = story.then(Call.object(-1, -1, -1));
        }
        return story.named("16 fixed ones");
    }

    /** "IllegalStateException when there are 16, or a run is under way". */
    private static void noObjectNow() {
        int[][] parents = {{-1, -1, -1}, {3, -1, -1}, {3, 2, -1}, {3, 2, 1}, {-1, 99, 99}, {0, -1, 99}};
        for (int[] p : parents) {
            Twins.unchanged(Stories.UNDER_WAY, Call.object(p[0], p[1], p[2]), STATE);
            Twins.unchanged(full(), Call.object(p[0], p[1], p[2]), STATE);
            Twins.unchanged(full().then(Call.begin(2, 7), Call.run(9)).named("16, under way"),
                    Call.object(p[0], p[1], p[2]), STATE);
        }
    }

    /** "NoSuchElementException when there is no such object", whatever else is wrong. */
    private static void propertyOfNoObject() {
        for (int o : Stories.farAnd(-1, 4, 15, 18, 31, 32)) {
            Twins.unchanged(Stories.ALL, Call.property(o, 0, NUMBER, 1), NO_SUCH);
            Twins.unchanged(Stories.UNDER_WAY, Call.property(o, 8, 5, 1), NO_SUCH);
        }
        Twins.unchanged(Stories.NEW, Call.property(0, 0, NUMBER, 1), NO_SUCH);
        Twins.unchanged(List.of(Stories.IDLE, Stories.ENDED), Call.property(16, 0, NUMBER, 1), NO_SUCH);
    }

    /** "IllegalArgumentException when p or kind is not as said, or it is an OBJECT that is not there, or a METHOD .." */
    private static void wrongProperties() {
        for (int p : Stories.farAnd(-1, 8, 9)) {
            for (int kind = -1; kind <= METHOD; kind++) {
                Twins.unchanged(Stories.PEOPLED, Call.property(0, p, kind, 0), ARGUMENT);
            }
        }
        for (int kind : Stories.farAnd(-2, 5, 6)) {
            Twins.unchanged(Stories.PEOPLED, Call.property(3, 3, kind, 0), ARGUMENT);
        }
        for (int o : Stories.farAnd(-1, 4, 15, 18, 31, 32)) {
            Twins.unchanged(Stories.PEOPLED, Call.property(3, 3, OBJECT, o), ARGUMENT);
        }
        for (int address : Stories.farAnd(-1, 300, 301)) {
            if (address != 256) {
                Twins.unchanged(Stories.PEOPLED, Call.property(3, 3, METHOD, address), ARGUMENT);
            }
        }
    }

    /** "IllegalStateException while a run is under way": for every kind, of fixed and of made objects. */
    private static void noPropertyNow() {
        for (int kind = -1; kind <= METHOD; kind++) {
            Twins.unchanged(Stories.UNDER_WAY, Call.property(0, 0, kind, 1), STATE);
            Twins.unchanged(Stories.UNDER_WAY, Call.property(17, 7, kind, 0), STATE);
        }
    }

    private static void beginOfNoObject() {
        for (int o : Stories.farAnd(-1, 4, 15, 18, 31, 32)) {
            Twins.unchanged(Stories.ALL, Call.begin(o, 7), NO_SUCH);
            Twins.unchanged(Stories.ALL, Call.begin(o, 8), NO_SUCH);
        }
        Twins.unchanged(Stories.NEW, Call.begin(0, 0), NO_SUCH);
    }

    /** "IllegalArgumentException when it has no METHOD for p, or this cannot be called". */
    private static void noMethodToBegin() {
        for (int p : Stories.farAnd(-1, 8, 9)) {
            Twins.unchanged(Stories.PEOPLED, Call.begin(2, p), ARGUMENT);
        }
        Twins.unchanged(Stories.PEOPLED, Call.begin(2, 3), ARGUMENT);
        Twins.unchanged(Stories.PEOPLED, Call.begin(3, 7), ARGUMENT);
        Twins.unchanged(Stories.PEOPLED, Call.begin(3, 3), ARGUMENT);
        Twins.unchanged(Stories.PEOPLED, Call.begin(2, 2), ARGUMENT);
        for (Story story : Stories.OVER) {
            for (int kind = NIL; kind <= OBJECT; kind++) {
                Twins.unchanged(story.then(Call.property(2, 7, kind, 1)), Call.begin(2, 7), ARGUMENT);
            }
            Twins.unchanged(story.then(Call.property(2, 7, METHOD, story.length())), Call.begin(2, 7), ARGUMENT);
            Twins.unchanged(story.then(Call.property(2, 7, METHOD, 299)), Call.begin(2, 7), ARGUMENT);
        }
    }

    private static void noBeginNow() {
        Twins.unchanged(Stories.UNDER_WAY, Call.begin(2, 7), STATE);
        Twins.unchanged(Stories.UNDER_WAY, Call.begin(0, 5), STATE);
        Twins.unchanged(Stories.UNDER_WAY, Call.begin(17, 6), STATE);
    }

    /** No fuel does nothing; "-1 when none has begun"; "1, 2 or 3 as it was over (the same again)", 4 after a stop. */
    private static void run() {
        for (int fuel : new int[] {Integer.MIN_VALUE, -3000, -1, 0}) {
            Twins.unchanged(Stories.UNDER_WAY, Call.run(fuel), 0);
        }
        for (int fuel : Stories.farAnd(-1, 0, 1, 2, 3000, 3001)) {
            Twins.unchanged(Stories.NEW, Call.run(fuel), -1);
            Twins.unchanged(Stories.IDLE, Call.run(fuel), -1);
            Twins.unchanged(Stories.ENDED, Call.run(fuel), 1);
            Twins.unchanged(Stories.UNCAUGHT, Call.run(fuel), 2);
            Twins.unchanged(Stories.FAULT, Call.run(fuel), 3);
            Twins.unchanged(Stories.STOPPED, Call.run(fuel), 4);
        }
    }

    /** "false when there is none". */
    private static void stop() {
        Twins.unchanged(Stories.NOT_UNDER_WAY, Call.stop(), false);
    }

    /** Where all can be come to, none goes, and nothing changes. */
    private static void collect() {
        Twins.unchanged(Stories.ALL, Call.collect(), 0);
    }

    private static void stack() {
        for (int k : Stories.farAnd(-2, -1, 8, 9, 39, 40, 41)) {
            Twins.unchanged(Stories.ALL, Call.stack(k, 0), NO_SUCH);
            Twins.unchanged(Stories.ALL, Call.stack(k, 1), NO_SUCH);
        }
        Twins.unchanged(List.of(Stories.NEW, Stories.IDLE, Stories.ENDED, Stories.UNCAUGHT), Call.stack(0, 0), NO_SUCH);
        Twins.unchanged(Stories.FAULT, Call.stack(3, 0), NO_SUCH);
        for (int what : Stories.farAnd(-1, 2, 3)) {
            Twins.unchanged(Stories.ALL, Call.stack(0, what), NO_SUCH);
        }
        Twins.unchanged(Stories.UNDER_WAY, Call.stack(0, 0), OBJECT);
        Twins.unchanged(Stories.UNDER_WAY, Call.stack(7, 0), TRUE);
        Twins.unchanged(Stories.UNDER_WAY, Call.stack(2, 1), 77);
    }

    /** "NoSuchElementException for another what, or without a frame for 1 and 2". */
    private static void show() {
        for (int what : Stories.farAnd(-2, -1, 6, 7)) {
            Twins.unchanged(Stories.ALL, Call.show(what), NO_SUCH);
        }
        for (int what = 1; what <= 2; what++) {
            Twins.unchanged(List.of(Stories.NEW, Stories.IDLE, Stories.ENDED, Stories.UNCAUGHT), Call.show(what), NO_SUCH);
        }
        int[] due = {2, 7, 16, 2, 6, 2};
        for (int what = 0; what <= 5; what++) {
            Twins.unchanged(Stories.UNDER_WAY, Call.show(what), due[what]);
        }
    }

    private static void said() {
        for (int k : Stories.farAnd(-3, -2, 9, 10, 49, 50, 51)) {
            Twins.unchanged(Stories.ALL, Call.said(k, 0), NO_SUCH);
            Twins.unchanged(Stories.ALL, Call.said(k, 1), NO_SUCH);
        }
        Twins.unchanged(Stories.UNDER_WAY, Call.said(2, 0), NO_SUCH);
        Twins.unchanged(Stories.UNCAUGHT, Call.said(1, 0), NO_SUCH);
        Twins.unchanged(List.of(Stories.NEW, Stories.IDLE), Call.said(0, 0), NO_SUCH);
        for (int what = 0; what <= 1; what++) {
            Twins.unchanged(List.of(Stories.NEW, Stories.IDLE, Stories.UNDER_WAY, Stories.FAULT, Stories.STOPPED),
                    Call.said(-1, what), NO_SUCH);
        }
        for (int what : Stories.farAnd(-1, 2, 3)) {
            Twins.unchanged(Stories.ALL, Call.said(0, what), NO_SUCH);
            Twins.unchanged(Stories.ALL, Call.said(-1, what), NO_SUCH);
        }
        Twins.unchanged(Stories.ENDED, Call.said(8, 0), NIL);
        Twins.unchanged(Stories.ENDED, Call.said(-1, 1), 2);
        Twins.unchanged(Stories.UNCAUGHT, Call.said(-1, 1), 16);
    }

    /** "NoSuchElementException when there is no such object, or it has none, or for another what or p". */
    private static void has() {
        for (int o : Stories.farAnd(-1, 4, 15, 18, 31, 32)) {
            Twins.unchanged(Stories.ALL, Call.has(o, 2, 0), NO_SUCH);
        }
        Twins.unchanged(Stories.NEW, Call.has(0, 5, 0), NO_SUCH);
        for (int what = 0; what <= 2; what++) {
            Twins.unchanged(Stories.PEOPLED, Call.has(2, 4, what), NO_SUCH);
            Twins.unchanged(Stories.PEOPLED, Call.has(0, 2, what), NO_SUCH);
            for (int p : Stories.farAnd(-1, 8, 9)) {
                Twins.unchanged(Stories.PEOPLED, Call.has(0, p, what), NO_SUCH);
                Twins.unchanged(Stories.PEOPLED, Call.has(3, p, what), NO_SUCH);
            }
        }
        for (int what : Stories.farAnd(-1, 3, 4)) {
            Twins.unchanged(Stories.PEOPLED, Call.has(2, 2, what), NO_SUCH);
        }
        int[] due = {METHOD, 0, 1};
        for (int what = 0; what <= 2; what++) {
            Twins.unchanged(Stories.PEOPLED, Call.has(2, 2, what), due[what]);
        }
    }

    /** "false when one is not there". */
    private static void isOf() {
        for (int no : Stories.farAnd(-1, 4, 15, 18, 31, 32)) {
            Twins.unchanged(Stories.ALL, Call.isOf(no, 0), false);
            Twins.unchanged(Stories.ALL, Call.isOf(0, no), false);
            Twins.unchanged(Stories.ALL, Call.isOf(no, no), false);
        }
        Twins.unchanged(Stories.NEW, Call.isOf(0, 0), false);
        Twins.unchanged(Stories.UNDER_WAY, Call.isOf(17, 0), true);
        Twins.unchanged(Stories.UNDER_WAY, Call.isOf(0, 17), false);
    }
}
