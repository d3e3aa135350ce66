import java.util.ArrayList;
import java.util.List;

/** A run of calls on a new machine, made anew as often as a test wants a machine in that state. */
record Story(String name, List<Call> calls, int length) implements Instructions {
    static Story of(String name) {
        return new Story(name, List.of(), 0);
    }

    /** With the objects 0, 1 (its parent 0) and 2 (its parent 1), and the code. */
    static Story with(String name, int... bytes) {
        return of(name).then(Call.object(-1, -1, -1), Call.object(0, -1, -1), Call.object(1, -1, -1)).write(bytes);
    }

    /** The same, with the method at address 0 as object 2's property 7, which has begun. */
    static Story begun(String name, int... bytes) {
        return with(name, bytes).then(Call.property(2, 7, METHOD, 0), Call.begin(2, 7));
    }

    Story then(Call... more) {
        List<Call> all = new ArrayList<>(calls);
        all.addAll(List.of(more));
        return new Story(name, all, length);
    }

    Story named(String other) {
        return new Story(other, calls, length);
    }

    Story write(int... bytes) {
        List<Call> all = new ArrayList<>(calls);
        for (int at = 0; at < bytes.length; at += 4) {
            int k = Math.min(4, bytes.length - at);
            int word = 0;
            for (int i = 0; i < k; i++) {
                word = word << 8 | bytes[at + i] & 0xFF;
            }
            all.add(Call.code(word, k));
        }
        return new Story(name, all, length + bytes.length);
    }

    TaleMachine machine() {
        TaleMachine m = new TaleMachine();
        for (Call call : calls) {
            String answer = call.on(m);
            if (answer.equals("false") || answer.endsWith("Exception")) {
                throw new AssertionError(name + ": " + call.text() + " was refused: " + answer);
            }
        }
        return m;
    }
}
