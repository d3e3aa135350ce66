/**
 * Runs that mix the sentences: what is inherited from several parents, and then changed, made, collected, undone or
 * brought back. The objects are 0; 1 and 2 of 0; 3 of 1 and 2; 4 of 2 and 1; 5 of 3 and 4; 6; 7 of 6, 3 and 1. So the
 * line of 3 is 3 1 2 0, of 4 it is 4 2 1 0, of 5 it is 5 3 4 2 1 0, and of 7 it is 7 6 3 2 1 0.
 */
final class InheritedMixTest implements Instructions {
    public static void main(String[] args) {
        changedFromOutside();
        changedByTheRun();
        changedForMadeOnes();
        undoneStepByStep();
        madeAnewWithAnotherParent();
        collectedAndUndone();
        broughtBack();
        inheritedMethods();
        inheritedMethodsChanged();
        inheritedByMadeOnes();
        changedWhileCalled();
        undoneWhileCalled();
        argumentsAlongTheLine();
        collectedWhileCalled();
        Check.end();
    }

    private static Story family(String name) {
        return Story.of(name).then(Call.object(-1, -1, -1), Call.object(0, -1, -1), Call.object(0, -1, -1),
                Call.object(1, 2, -1), Call.object(2, 1, -1), Call.object(3, 4, -1), Call.object(-1, -1, -1),
                Call.object(6, 3, 1));
    }

    /** For each of the objects the one whose own value it has for property 0, or "-". */
    private static String holders(TaleMachine m, int... objects) {
        StringBuilder text = new StringBuilder();
        for (int o : objects) {
            String holder = Call.has(o, 0, 2).on(m);
            text.append(holder.endsWith("Exception") ? "-" : holder).append(' ');
        }
        return text.toString().trim();
    }

    private static void changedFromOutside() {
        TaleMachine m = family("changed from outside").machine();
        Check.same("nothing at first", holders(m, 3, 4, 5, 7), "- - - -");
        int[] given = {0, 1, 2, 4, 6, 3};
        String[] due = {"0 0 0 0", "1 1 1 1", "1 2 2 2", "1 4 4 2", "1 4 4 6", "3 4 3 6"};
        for (int i = 0; i < given.length; i++) {
            m.property(given[i], 0, i % 5, i % 5 == OBJECT ? 5 : i);
            Check.same("with " + given[i] + "'s own", holders(m, 3, 4, 5, 7), due[i]);
        }
        int[] taken = {6, 4, 3, 2, 1, 0};
        String[] left = {"3 4 3 3", "3 2 3 3", "1 2 2 2", "1 1 1 1", "0 0 0 0", "- - - -"};
        for (int i = 0; i < taken.length; i++) {
            m.property(taken[i], 0, -1, 0);
            Check.same("without " + taken[i] + "'s own", holders(m, 3, 4, 5, 7), left[i]);
        }
    }

    /** The same by instructions, and what is asked for (21) is what has answers. */
    private static void changedByTheRun() {
        Book book = new Book();
        int asks = book.method(1, 0, LOCAL, 0, ASK, 0, 0, SAY, END_NIL);
        int[] body = {};
        int[] given = {0, 1, 2, 4, 6, 3};
        for (int o : given) {
            body = Tale.join(body, Book.give(o, 0, 50 + o));
            for (int asked : new int[] {5, 7}) {
                body = Tale.join(body, Tale.bytes(PUT_OBJECT, asked, CALL, 1, 0, asks, DROP));
            }
        }
        int begun = book.method(0, 0, Tale.join(body, Tale.bytes(END_NIL)));
        TaleMachine m = family("changed by the run").write(book.code())
                .then(Call.property(6, 7, METHOD, begun), Call.begin(6, 7)).machine();
        String[] due = {"0 0 0 0", "1 1 1 1", "1 2 2 2", "1 4 4 2", "1 4 4 6", "3 4 3 6"};
        for (int i = 0; i < given.length; i++) {
            Check.same("goes on", m.run(3), 0);
            Check.same("with " + given[i] + "'s own", holders(m, 3, 4, 5, 7), due[i]);
            m.run(14);
            Check.same("5 was asked", m.said(2 * i, 1), 50 + m.has(5, 0, 2));
            Check.same("7 was asked", m.said(2 * i + 1, 1), 50 + m.has(7, 0, 2));
        }
        Check.same("the end", m.run(1), 1);
        Check.same("objects stay as they are", holders(m, 3, 4, 5, 7), "3 4 3 6");
    }

    /** 16 of 3, 17 of 4, 18 of 5, 19 of 7, 20 of 18: they have what their parents have, and then their own. */
    private static void changedForMadeOnes() {
        int[] body = {MAKE, 3, MAKE, 4, MAKE, 5, MAKE, 7, MAKE, 18};
        int[] given = {1, 2, 4, 6, 18, 16, 20};
        for (int o : given) {
            body = Tale.join(body, Book.give(o, 0, o));
        }
        Book book = new Book();
        book.method(0, 0, Tale.join(body, Tale.bytes(END)));
        TaleMachine m = family("made ones").write(book.code())
                .then(Call.property(6, 7, METHOD, 0), Call.begin(6, 7), Call.run(5)).machine();
        Check.same("nothing at first", holders(m, 16, 17, 18, 19, 20), "- - - - -");
        String[] due = {"1 1 1 1 1", "1 2 2 2 2", "1 4 4 2 4", "1 4 4 6 4", "1 4 18 6 18", "16 4 18 6 18", "16 4 18 6 20"};
        for (int i = 0; i < given.length; i++) {
            m.run(3);
            Check.same("with " + given[i] + "'s own", holders(m, 16, 17, 18, 19, 20), due[i]);
        }
        Check.same("the end", m.run(1) + " " + m.said(-1, 1), "1 20");
        m.property(18, 0, -1, 0);
        m.property(20, 0, -1, 0);
        Check.same("taken away from outside", holders(m, 18, 20), "4 4");
        Check.yes("20 is of all of them", m.isOf(20, 18) && m.isOf(20, 5) && m.isOf(20, 3) && m.isOf(20, 4)
                && m.isOf(20, 1) && m.isOf(20, 2) && m.isOf(20, 0));
        Check.no("and of no other", m.isOf(20, 6) || m.isOf(20, 7) || m.isOf(20, 16) || m.isOf(18, 20));
        Check.same("only 20 and its parents stay", m.collect() + " " + m.show(4), "3 10");
        Check.same("and have what they had", holders(m, 18, 20) + " " + Call.has(16, 0, 0).on(m), "4 4 NoSuchElementException");
    }

    private static void undoneStepByStep() {
        int[] body = Tale.join(Tale.bytes(MAKE, 5), Book.give(1, 0, 51));
        for (int o : new int[] {2, 4, 6}) {
            body = Tale.join(body, Tale.bytes(POINT), Book.give(o, 0, 50 + o));
        }
        Book book = new Book();
        book.method(0, 0, Tale.join(body, Tale.times(4, UNDO, DROP), Tale.bytes(END)));
        TaleMachine m = family("undone step by step").write(book.code())
                .then(Call.property(6, 7, METHOD, 0), Call.begin(6, 7), Call.run(4)).machine();
        Check.same("1's own", holders(m, 5, 7, 16), "1 1 1");
        String[] due = {"2 2 2", "4 2 4", "4 6 4"};
        for (String one : due) {
            m.run(4);
            Check.same("given", holders(m, 5, 7, 16), one);
        }
        Check.same("three points", m.show(3), 3);
        String[] undone = {"4 2 4", "2 2 2", "1 1 1", "1 1 1"};
        for (int i = 0; i < undone.length; i++) {
            m.run(1);
            Check.same("undone", holders(m, 5, 7, 16) + " " + Tale.stack(m), undone[i] + " 3:16 " + (i < 3 ? "1:1" : "0:0"));
            m.run(1);
        }
        Check.same("16 was made before the points", Tale.rest(m), "1 said result 3:16");
    }

    /** 16 of 3 and 17 of 16 go by undoing; then 16 is made of 4, and 17 of 16. */
    private static void madeAnewWithAnotherParent() {
        Book book = new Book();
        book.method(0, 0, Tale.join(Book.give(1, 0, 51), Book.give(2, 0, 52), Tale.bytes(POINT, MAKE, 3, DROP, MAKE, 16, DROP),
                Book.give(16, 1, 9), Tale.bytes(UNDO, DROP, MAKE, 4, DROP, MAKE, 16, END)));
        TaleMachine m = family("made anew").write(book.code())
                .then(Call.property(6, 7, METHOD, 0), Call.begin(6, 7), Call.run(14)).machine();
        Check.same("of 3", holders(m, 16, 17) + " " + Portrait.had(m, 17, 1), "1 1 2:9@16");
        m.run(1);
        Check.same("undone", holders(m, 16, 17) + " " + m.show(4) + " " + m.isOf(17, 16), "- - 8 false");
        Check.same("the end", Tale.rest(m), "1 said result 3:17");
        Check.same("of 4", holders(m, 16, 17) + " " + Portrait.had(m, 17, 1), "2 2 -");
        Check.yes("both are of 3's parents", m.isOf(17, 1) && m.isOf(17, 2) && m.isOf(17, 4));
        Check.no("but not of 3", m.isOf(17, 3) || m.isOf(16, 3));
    }

    /** 6's own value leads to 17, and that to its parent 16, of 3. When 6 has it no more they go; then it is undone. */
    private static void collectedAndUndone() {
        Book book = new Book();
        book.method(0, 0, Tale.join(Book.give(1, 0, 51), Book.give(2, 0, 52), Tale.bytes(MAKE, 3, DROP,
                MAKE, 16, PUT_OBJECT, 6, SET, 1, POINT, PUT_NIL, PUT_OBJECT, 6, SET, 1, MAKE, 4, UNDO, DROP, END)));
        TaleMachine m = family("collected").write(book.code())
                .then(Call.property(6, 7, METHOD, 0), Call.begin(6, 7), Call.run(11)).machine();
        Check.same("6 has 17", Portrait.had(m, 7, 1) + " " + m.collect(), "3:17@6 0");
        Check.same("with 3's line", holders(m, 16, 17), "1 1");
        m.run(4);
        Check.same("nobody has them", Portrait.had(m, 7, 1) + " " + m.collect() + " " + m.show(4), "0:0@6 2 8");
        Check.same("neither has anything", holders(m, 16, 17), "- -");
        m.run(1);
        Check.same("16 with 4's line", holders(m, 16, 17) + " " + m.isOf(16, 3) + m.isOf(16, 4), "2 - falsetrue");
        Check.same("it is on the stack", m.collect() + " " + Tale.stack(m), "0 3:16");
        m.run(1);
        Check.same("16 with 3's line again", holders(m, 16, 17) + " " + m.isOf(17, 16) + m.isOf(16, 4), "1 1 truefalse");
        Check.same("6 has 17 again", Portrait.had(m, 7, 1) + " " + m.collect(), "3:17@6 0");
        Check.same("OBJECT 16 is that one", Tale.stack(m), "3:16 1:1");
        Check.same("the end", Tale.rest(m), "1 said result 3:16");
    }

    /** A first run saves 16 of 5 in 0, a second one 16 of 7 in 1; between them there are changes from outside. */
    private static void broughtBack() {
        Book book = new Book();
        int first = book.method(0, 0, Tale.join(Tale.bytes(MAKE, 5, DROP), Book.give(16, 1, 9), Book.give(2, 0, 52),
                Tale.bytes(SAVE, 0, END_NIL)));
        int second = book.method(0, 0, MAKE, 7, PUT_OBJECT, 6, SET, 1, SAVE, 1, END_NIL);
        int third = book.method(0, 0, POINT, LOAD, 0, UNDO, LOAD, 1, LOAD, 0, END_NIL);
        TaleMachine m = family("brought back").write(book.code()).then(Call.property(6, 5, METHOD, first),
                Call.property(6, 6, METHOD, second), Call.property(6, 7, METHOD, third),
                Call.begin(6, 5), Call.run(99)).machine();
        Check.same("16 of 5", holders(m, 16, 5, 7, 3) + " " + Portrait.had(m, 16, 1), "2 2 2 2 2:9@16");
        m.property(2, 0, -1, 0);
        m.property(1, 0, NUMBER, 51);
        Check.same("16 goes", holders(m, 16, 5, 7, 3) + " " + m.collect(), "1 1 1 1 1");
        m.begin(6, 6);
        m.run(99);
        Check.same("16 of 7", holders(m, 16, 5, 7, 3) + " " + Portrait.had(m, 16, 1), "1 1 1 1 3:16@6");
        m.property(3, 0, TRUE, 0);
        m.property(6, 0, NIL, 0);
        Check.same("changed once more", holders(m, 16, 5, 7, 3), "6 3 6 3");
        m.begin(6, 7);
        m.run(2);
        Check.same("as in the first run", holders(m, 16, 5, 7, 3) + " " + Portrait.had(m, 16, 1) + " " + Portrait.had(m, 6, 1),
                "2 2 2 2 2:9@16 -");
        Check.same("of 5", m.isOf(16, 5) + " " + m.isOf(16, 7), "true false");
        m.run(1);
        Check.same("no point is left", Tale.stack(m) + " " + m.show(3), "1:1 0:0 0");
        m.run(1);
        Check.same("as in the second run", holders(m, 16, 5, 7, 3) + " " + Portrait.had(m, 16, 1), "1 1 1 1 3:16@6");
        Check.same("of 7", m.isOf(16, 5) + " " + m.isOf(16, 7), "false true");
        m.run(1);
        Check.same("and as in the first", holders(m, 16, 5, 7, 3) + " " + Portrait.had(m, 16, 1), "2 2 2 2 2:9@16");
        Check.same("the end", m.run(1) + " " + m.collect(), "1 1");
    }

    /** METHODS for property 0: those of 1 to 4 (and one for 6) say their number and go on; 0's says SELF and ends with 7. */
    private static Story tellers(String name) {
        Book book = new Book();
        Story story = family(name);
        for (int o : new int[] {1, 2, 3, 4, 6}) {
            int address = book.method(0, 0, BYTE, o, SAY, INHERITED, 0, 0, END);
            story = o == 6 ? story : story.then(Call.property(o, 0, METHOD, address));
        }
        int last = book.method(0, 0, SELF, SAY, BYTE, 7, END);
        return story.then(Call.property(0, 0, METHOD, last)).write(book.code());
    }

    private static final int TELLER_OF_6 = 4 * 10;

    private static String told(TaleMachine m, int o) {
        m.begin(o, 0);
        return Tale.rest(m);
    }

    private static void inheritedMethods() {
        TaleMachine m = tellers("inherited methods").machine();
        Check.same("of 1", told(m, 1), "1 said 2:1 3:1 result 2:7");
        Check.same("of 2", told(m, 2), "1 said 2:2 3:2 result 2:7");
        Check.same("of 3", told(m, 3), "1 said 2:3 2:1 2:2 3:3 result 2:7");
        Check.same("of 4", told(m, 4), "1 said 2:4 2:2 2:1 3:4 result 2:7");
        Check.same("of 5", told(m, 5), "1 said 2:3 2:4 2:2 2:1 3:5 result 2:7");
        Check.same("of 7", told(m, 7), "1 said 2:3 2:2 2:1 3:7 result 2:7");
    }

    private static void inheritedMethodsChanged() {
        TaleMachine m = tellers("inherited methods changed").machine();
        m.property(6, 0, METHOD, TELLER_OF_6);
        Check.same("6 has one too", told(m, 7), "1 said 2:6 2:3 2:2 2:1 3:7 result 2:7");
        Check.same("with nothing behind it", told(m, 6), "1 said 2:6 result 0:0");
        m.property(4, 0, -1, 0);
        Check.same("4 has none", told(m, 5), "1 said 2:3 2:2 2:1 3:5 result 2:7");
        Check.same("so 4 has 2's", told(m, 4), "1 said 2:2 2:1 3:4 result 2:7");
        m.property(1, 0, NUMBER, 99);
        Check.same("1 has a NUMBER", told(m, 5), "1 said 2:3 2:2 result 2:99");
        Check.same("which hides 0's, and for 3 also 2's", told(m, 3), "1 said 2:3 result 2:99");
        m.property(2, 0, NIL, 0);
        Check.same("2 has NIL", told(m, 5), "1 said 2:3 result 0:0");
        Check.same("3 still finds 1's first", told(m, 3), "1 said 2:3 result 2:99");
        m.property(3, 0, OBJECT, 6);
        Check.same("no METHOD any more", Call.begin(5, 0).on(m) + " " + Call.begin(7, 0).on(m), "IllegalArgumentException done");
    }

    /** 16 of 5 and 17 of 16: their own METHODS come first, and then the line of 5. */
    private static void inheritedByMadeOnes() {
        Story tellers = tellers("made ones");
        int makes = tellers.length();
        TaleMachine m = tellers.write(0, 0, 0, MAKE, 5, MAKE, 16, END)
                .then(Call.property(6, 7, METHOD, makes), Call.begin(6, 7), Call.run(9)).machine();
        Check.same("they inherit", told(m, 17), "1 said 2:3 2:4 2:2 2:1 3:17 result 2:7");
        m.property(16, 0, METHOD, TELLER_OF_6);
        Check.same("16's own", told(m, 17), "1 said 2:6 2:3 2:4 2:2 2:1 3:17 result 2:7");
        Check.same("and of 16 itself", told(m, 16), "1 said 2:6 2:3 2:4 2:2 2:1 3:16 result 2:7");
        Check.same("5 has nothing of its child", told(m, 5), "1 said 2:3 2:4 2:2 2:1 3:5 result 2:7");
        m.property(17, 0, METHOD, TELLER_OF_6);
        Check.same("seven frames", told(m, 17), "1 said 2:6 2:6 2:3 2:4 2:2 2:1 3:17 result 2:7");
        m.property(17, 0, TRUE, 0);
        Check.same("17's own is no METHOD", Call.begin(17, 0).on(m), "IllegalArgumentException");
        m.property(6, 1, OBJECT, 17);
        Check.same("kept by 6", told(m, 5) + " " + m.collect(), "1 said 2:3 2:4 2:2 2:1 3:5 result 2:7 0");
        m.property(6, 1, -1, 0);
        Check.same("and by nobody", m.collect() + " " + Call.begin(16, 0).on(m), "2 NoSuchElementException");
    }

    /** 3's method changes what is behind it while it is called, and takes its own METHOD away. */
    private static void changedWhileCalled() {
        int[][] changes = {
            {PUT_NIL, PUT_OBJECT, 4, SET, 0}, {BYTE, 44, PUT_OBJECT, 4, SET, 0}, {BYTE, 55, PUT_OBJECT, 5, SET, 0},
            {BYTE, 33, PUT_OBJECT, 3, SET, 0}, {BYTE, 22, PUT_OBJECT, 2, SET, 0}, {BYTE, 11, PUT_OBJECT, 1, SET, 0}};
        String[] due = {"1 said result 0:0", "1 said result 2:44", "1 said 2:4 2:2 2:1 3:5 result 2:7",
            "1 said 2:4 2:2 2:1 3:5 result 2:7", "1 said 2:4 result 2:22", "1 said 2:4 2:2 result 2:11"};
        for (int i = 0; i < changes.length; i++) {
            Story story = tellers("changed while called " + i);
            int address = story.length();
            story = story.write(Tale.join(Tale.bytes(0, 0, 0), changes[i], Tale.bytes(INHERITED, 0, 0, END)))
                    .then(Call.property(3, 0, METHOD, address));
            Check.same(story.name(), told(story.machine(), 5), due[i]);
        }
    }

    /** A point is set, 4 is given a NUMBER, and an object is asked whose method undoes that and goes on behind 3. */
    private static Story undoing(String name, int... asked) {
        Story story = tellers(name);
        int undoes = story.length();
        story = story.write(0, 0, 0, UNDO, DROP, INHERITED, 0, 0, END);
        int begun = story.length();
        return story.write(Tale.join(Tale.bytes(0, 0, 0, POINT), Book.give(4, 0, 44), asked, Tale.bytes(ASK, 0, 0, END)))
                .then(Call.property(3, 0, METHOD, undoes), Call.property(6, 7, METHOD, begun), Call.begin(6, 7), Call.run(6));
    }

    private static void undoneWhileCalled() {
        TaleMachine fixed = undoing("5 is asked", PUT_OBJECT, 5).machine();
        Check.same("called", fixed.show(0) + " self " + fixed.show(2) + " " + Portrait.had(fixed, 4, 0), "2 self 5 2:44@4");
        fixed.run(1);
        Check.same("4 has its METHOD again", Portrait.had(fixed, 4, 0), "4:30@4");
        Check.same("and is gone on with", Tale.rest(fixed), "1 said 2:4 2:2 2:1 3:5 result 2:7");
        TaleMachine made = undoing("a made one is asked", MAKE, 5).machine();
        Check.same("called", made.show(0) + " self " + made.show(2) + " " + made.isOf(16, 3), "2 self 16 true");
        made.run(1);
        Check.same("SELF is not there any more", made.show(2) + " " + made.isOf(16, 3), "16 false");
        Check.same("so nothing is inherited", made.run(1) + " " + Tale.rest(made), "0 3 said at " + (tellers("").length() + 5));
    }

    /** Each method along the line must have as many arguments as it is called with. */
    private static void argumentsAlongTheLine() {
        Book book = new Book();
        int adds = book.method(1, 0, LOCAL, 0, BYTE, 1, PLUS, INHERITED, 1, 0, END);
        int two = book.method(2, 0, LOCAL, 0, END);
        int ends = book.method(1, 1, LOCAL, 0, BYTE, 10, TIMES, END);
        int begun = book.method(0, 0, BYTE, 5, SELF, ASK, 1, 0, END);
        Story story = family("arguments").write(book.code()).then(Call.property(3, 0, METHOD, adds),
                Call.property(4, 0, METHOD, adds), Call.property(2, 0, METHOD, ends), Call.property(0, 7, METHOD, begun));
        Check.same("through 3 and 4 to 2", Tale.rest(story.then(Call.begin(5, 7)).machine()), "1 said result 2:70");
        Check.same("through 4 to 2", Tale.rest(story.then(Call.begin(4, 7)).machine()), "1 said result 2:60");
        Check.same("only 2", Tale.rest(story.then(Call.begin(2, 7)).machine()), "1 said result 2:50");
        Check.same("1 has nothing to call", Tale.rest(story.then(Call.begin(1, 7)).machine()), "3 said at " + (begun + 6));
        TaleMachine m = story.then(Call.property(2, 0, METHOD, two), Call.begin(5, 7)).machine();
        Check.same("2's has two arguments", Tale.rest(m), "3 said at " + (adds + 8));
        Check.same("frames and values stay", m.show(0) + " " + Tale.stack(m), "3 2:5 2:6 2:7");
    }

    /** The METHOD is the made 16's own, SELF is 17 of 16; in the call nothing but the frame leads to them. */
    private static void collectedWhileCalled() {
        Book book = new Book();
        int called = book.method(0, 0, NOTHING, INHERITED, 0, 0, END);
        int begun = book.method(0, 0, Tale.join(Book.give(1, 0, 51), Book.give(2, 0, 52), Tale.bytes(MAKE, 4, DROP,
                MAKE, 16, DROP, MAKE, 5, DROP, PUT_METHOD, 0, called, PUT_OBJECT, 16, SET, 0, PUT_OBJECT, 17, ASK, 0, 0, END)));
        TaleMachine m = family("collected while called").write(book.code())
                .then(Call.property(6, 7, METHOD, begun), Call.begin(6, 7), Call.run(17)).machine();
        Check.same("called", m.show(0) + " self " + m.show(2) + " objects " + m.show(4), "2 self 17 objects 11");
        Check.same("18 goes", m.collect() + " " + holders(m, 16, 17, 18), "1 16 16 -");
        Check.same("2's by 4's line", Tale.rest(m), "1 said result 2:52");
        Check.same("then they go", m.collect() + " " + m.show(4), "2 8");
    }
}
