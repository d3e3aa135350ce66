/** Promise 2: code. */
final class CodeTest implements Instructions {
    public static void main(String[] args) {
        orderOfBytes();
        limits();
        duringARun();
        Check.end();
    }

    private static void orderOfBytes() {
        TaleMachine m = new TaleMachine();
        m.object(-1, -1, -1);
        m.property(0, 0, METHOD, 0);
        Check.yes("three lowest of four", m.code(0x77000000, 3));
        Check.yes("four", m.code(0x02FEDCBA, 4));
        Check.yes("two", m.code(0x5555981E, 2));
        Check.yes("one", m.code(0xFFFFFF1A, 1));
        m.begin(0, 0);
        Check.same("a number, the highest byte first", Tale.rest(m), "1 said 2:" + 0xFEDCBA98 + " result 0:0");
    }

    private static void limits() {
        TaleMachine m = new TaleMachine();
        m.object(-1, -1, -1);
        for (int k : new int[] {0, -1, 5, 8, Integer.MIN_VALUE, Integer.MAX_VALUE}) {
            Check.no("code of " + k, m.code(0, k));
        }
        for (int i = 0; i < 74; i++) {
            Check.yes("code", m.code(0, 4));
        }
        Check.yes("up to 297", m.code(0, 1));
        Check.no("301 bytes", m.code(0x1A1A1A1A, 4));
        Check.yes("300 bytes", m.code(0x1A, 3));
        for (int k = 1; k <= 4; k++) {
            Check.no("beyond 300", m.code(0, k));
        }
        m.property(0, 0, METHOD, 296);
        m.begin(0, 0);
        Check.same("the last byte is what came last, and nothing of what did not fit",
                Tale.rest(m), "1 said result 0:0");
    }

    private static void duringARun() {
        TaleMachine m = Tale.begun(0, 0, 0, NOTHING, BYTE);
        Check.same("the first instruction", m.run(1), 0);
        Check.yes("appends while a run is under way", m.code(9, 1));
        Check.yes("and again", m.code(END, 1));
        Check.same("what was appended counts", Tale.rest(m), "1 said result 2:9");
    }
}
