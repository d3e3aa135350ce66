/** All that the face tells of a machine but what run answers, as one text. */
final class Portrait {
    /** With more objects than these not every pair is asked about: an object has 512 calls. */
    private static final int PAIRED = 6;

    private Portrait() { }

    static String of(TaleMachine m) {
        StringBuilder text = new StringBuilder("shown");
        for (int what = 0; what <= 5; what++) {
            text.append(' ').append(Call.show(what).on(m));
        }
        text.append(" | stack ").append(Tale.stack(m)).append(" | said");
        for (int k = 0; k < m.show(5); k++) {
            text.append(' ').append(m.said(k, 0)).append(':').append(m.said(k, 1));
        }
        text.append(" | result ").append(Call.said(-1, 0).on(m)).append(':').append(Call.said(-1, 1).on(m));
        return text.append(objects(m)).toString();
    }

    static String objects(TaleMachine m) {
        StringBuilder text = new StringBuilder();
        for (int o = 0; o < 32; o++) {
            if (m.isOf(o, o)) {
                text.append(" | ").append(o).append(" has");
                for (int p = 0; p < 8; p++) {
                    text.append(' ').append(had(m, o, p));
                }
                text.append(lineage(m, o));
            }
        }
        return text.toString();
    }

    /** What an object has for a property, and of whom, or "-". */
    static String had(TaleMachine m, int o, int p) {
        String holder = Call.has(o, p, 2).on(m);
        return holder.endsWith("Exception") ? "-" : m.has(o, p, 0) + ":" + m.has(o, p, 1) + "@" + holder;
    }

    private static String lineage(TaleMachine m, int o) {
        if (m.show(4) > PAIRED) {
            return "";
        }
        StringBuilder text = new StringBuilder(" of");
        for (int other = 0; other < 32; other++) {
            if (m.isOf(o, other)) {
                text.append(' ').append(other);
            }
        }
        return text.toString();
    }
}
