import java.util.function.Function;

/** A call with its text, to be made on any machine. */
record Call(String text, Function<TaleMachine, Object> made) {
    static Call code(int word, int k) {
        return new Call("code(" + word + ", " + k + ")", m -> m.code(word, k));
    }

    static Call object(int a, int b, int c) {
        return new Call("object(" + a + ", " + b + ", " + c + ")", m -> m.object(a, b, c));
    }

    static Call property(int o, int p, int kind, int value) {
        return new Call("property(" + o + ", " + p + ", " + kind + ", " + value + ")", m -> {
            m.property(o, p, kind, value);
            return "done";
        });
    }

    static Call begin(int o, int p) {
        return new Call("begin(" + o + ", " + p + ")", m -> {
            m.begin(o, p);
            return "done";
        });
    }

    static Call run(int fuel) {
        return new Call("run(" + fuel + ")", m -> m.run(fuel));
    }

    static Call stop() {
        return new Call("stop()", TaleMachine::stop);
    }

    static Call collect() {
        return new Call("collect()", TaleMachine::collect);
    }

    static Call stack(int k, int what) {
        return new Call("stack(" + k + ", " + what + ")", m -> m.stack(k, what));
    }

    static Call show(int what) {
        return new Call("show(" + what + ")", m -> m.show(what));
    }

    static Call said(int k, int what) {
        return new Call("said(" + k + ", " + what + ")", m -> m.said(k, what));
    }

    static Call has(int o, int p, int what) {
        return new Call("has(" + o + ", " + p + ", " + what + ")", m -> m.has(o, p, what));
    }

    static Call isOf(int a, int b) {
        return new Call("isOf(" + a + ", " + b + ")", m -> m.isOf(a, b));
    }

    /** What it answers there, or the name of what it throws. */
    String on(TaleMachine m) {
        try {
            return String.valueOf(made.apply(m));
        } catch (RuntimeException e) {
            return e.getClass().getSimpleName();
        }
    }
}
