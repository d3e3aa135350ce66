/** Promise 13: isOf. */
final class IsOfTest implements Instructions {
    public static void main(String[] args) {
        TaleMachine m = Tale.with(0, 0, 0, MAKE, 2, MAKE, 16, POINT, END);
        m.object(-1, -1, -1);
        m.object(3, 1, -1);
        String[] due = {"10000", "11000", "11100", "00010", "11011"};
        for (int a = 0; a < 5; a++) {
            for (int b = 0; b < 5; b++) {
                Check.same(a + " of " + b, m.isOf(a, b), due[a].charAt(b) == '1');
            }
        }
        for (int no : new int[] {-1, 5, 15, 16, 31, 32, Integer.MIN_VALUE, Integer.MAX_VALUE}) {
            Check.no("not there", m.isOf(no, 0));
            Check.no("not there", m.isOf(0, no));
            Check.no("not there", m.isOf(no, no));
        }
        m.property(0, 0, METHOD, 0);
        m.begin(0, 0);
        m.run(9);
        Check.yes("made", m.isOf(17, 16) && m.isOf(17, 2) && m.isOf(17, 0) && m.isOf(17, 17));
        Check.no("not the other way", m.isOf(16, 17) || m.isOf(2, 16) || m.isOf(17, 3));
        m.begin(0, 0);
        m.collect();
        Check.no("gone", m.isOf(17, 16) || m.isOf(17, 17) || m.isOf(16, 2));
        Check.end();
    }
}
