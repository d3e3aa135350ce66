import java.util.ArrayList;
import java.util.List;

/** Two machines with the same story: something is done to one of them, and both must stay the same. */
final class Twins implements Instructions {
    private Twins() { }

    /** The call answers so (or throws so), and nothing that can be asked for then or later has changed. */
    static void unchanged(Story story, Call call, Object due) {
        String what = story.name() + ", " + call.text();
        TaleMachine m = story.machine();
        int outcome = m.run(0);
        Check.same(what, call.on(m), String.valueOf(due));
        Check.same(what + ": run then", m.run(0), outcome);
        Check.same(what + ": changes nothing", futures(story.then(tolerant(call))), futures(story));
        Check.same(what + ": how it ends", story.then(tolerant(call)).machine().run(3000), story.machine().run(3000));
    }

    static void unchanged(List<Story> stories, Call call, Object due) {
        for (Story story : stories) {
            unchanged(story, call, due);
        }
    }

    /** The next instruction is a fault: the run is over (3), and all is as if it had been stopped before it. */
    static void fault(Story story) {
        TaleMachine m = story.machine();
        Check.same(story.name() + ": before", m.run(0), 0);
        Check.same(story.name(), m.run(1), 3);
        Check.same(story.name() + ": again", m.run(3000), 3);
        Check.same(story.name() + ": does nothing", futures(story.then(Call.run(1))), futures(story.then(Call.stop())));
    }

    /** The next instruction is done: after it the run goes on, or has ended, or is over with something uncaught. */
    static TaleMachine done(Story story, int due) {
        TaleMachine m = story.machine();
        Check.same(story.name() + ": before", m.run(0), 0);
        Check.same(story.name(), m.run(1), due);
        return m;
    }

    private static Call tolerant(Call call) {
        return new Call(call.text(), m -> "answered " + call.on(m) + ".");
    }

    /** How the machine is now, and what can be seen of it after each of several ways to go on. */
    private static List<String> futures(Story story) {
        List<String> texts = new ArrayList<>();
        texts.add("now: " + Portrait.of(story.machine()));
        TaleMachine run = story.machine();
        run.run(3000);
        texts.add("run on: " + Portrait.of(run));
        texts.add("saved in 0: " + loaded(story, 0));
        texts.add("saved in 1: " + loaded(story, 1));
        texts.add("free bytes: " + freeBytes(story.machine()));
        TaleMachine more = story.machine();
        more.stop();
        texts.add("next object: " + Call.object(-1, -1, -1).on(more));
        return texts;
    }

    /** The objects after what is saved in the slot was brought back, if there is room for code that does it. */
    private static String loaded(Story story, int slot) {
        TaleMachine m = story.machine();
        m.stop();
        boolean fits = m.code(0, 3) && m.code(LOAD << 16 | slot << 8 | END, 3);
        if (!fits || !m.isOf(0, 0)) {
            return "cannot be told";
        }
        m.property(0, 0, METHOD, story.length());
        String begun = Call.begin(0, 0).on(m);
        return begun + " " + m.run(9) + " " + Call.said(-1, 0).on(m) + " " + Portrait.objects(m);
    }

    private static int freeBytes(TaleMachine m) {
        int free = 0;
        for (int k = 4; k >= 1; k -= 3) {
            for (int i = 0; i < 75 && m.code(0, k); i++) {
                free += k;
            }
        }
        return free;
    }
}
