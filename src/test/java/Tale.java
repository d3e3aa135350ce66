import java.util.NoSuchElementException;

/** Sets machines up and puts what they answer into one line of text. */
final class Tale {
    private Tale() { }

    /** A machine with the objects 0, 1 (its parent 0) and 2 (its parent 1), and the code. */
    static TaleMachine with(int... bytes) {
        TaleMachine m = new TaleMachine();
        m.object(-1, -1, -1);
        m.object(0, -1, -1);
        m.object(1, -1, -1);
        write(m, bytes);
        return m;
    }

    static void write(TaleMachine m, int... bytes) {
        int at = 0;
        while (at < bytes.length) {
            int k = Math.min(4, bytes.length - at);
            int word = 0;
            for (int i = 0; i < k; i++) {
                word = word << 8 | bytes[at + i] & 0xFF;
            }
            if (!m.code(word, k)) {
                throw new AssertionError("the code of a test does not fit");
            }
            at += k;
        }
    }

    /** The same, with the method at address 0 as object 2's property 7, which has begun. */
    static TaleMachine begun(int... bytes) {
        TaleMachine m = with(bytes);
        m.property(2, 7, 4, 0);
        m.begin(2, 7);
        return m;
    }

    /** What a run of the method at address 0 comes to. */
    static String told(int... bytes) {
        return rest(begun(bytes));
    }

    /** Lets the run go on: its outcome, what was said, and the result or the place of a fault. */
    static String rest(TaleMachine m) {
        StringBuilder text = new StringBuilder();
        int outcome = m.run(3000);
        text.append(outcome).append(" said");
        for (int k = 0; k < m.show(5); k++) {
            text.append(' ').append(m.said(k, 0)).append(':').append(m.said(k, 1));
        }
        if (outcome == 1 || outcome == 2) {
            text.append(" result ").append(m.said(-1, 0)).append(':').append(m.said(-1, 1));
        } else if (m.show(0) > 0) {
            text.append(" at ").append(m.show(1));
        }
        return text.toString();
    }

    /** The values on the stack, the lowest first. */
    static String stack(TaleMachine m) {
        StringBuilder text = new StringBuilder();
        for (int k = 0; k < 41; k++) {
            try {
                text.append(m.stack(k, 0)).append(':').append(m.stack(k, 1)).append(' ');
            } catch (NoSuchElementException e) {
                break;
            }
        }
        return text.toString().trim();
    }

    static int[] join(int[]... parts) {
        int length = 0;
        for (int[] part : parts) {
            length += part.length;
        }
        int[] all = new int[length];
        int at = 0;
        for (int[] part : parts) {
            System.arraycopy(part, 0, all, at, part.length);
            at += part.length;
        }
        return all;
    }

    static int[] bytes(int... bytes) {
        return bytes;
    }

    static int[] times(int n, int... bytes) {
        int[] all = new int[n * bytes.length];
        for (int i = 0; i < all.length; i++) {
            all[i] = bytes[i % bytes.length];
        }
        return all;
    }
}
