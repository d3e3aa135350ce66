import java.util.Arrays;

/** Terms and promise 2: the code's 300 bytes, places and bytes outside of it, and how far it is gone on. */
final class CodeBoundsTest implements Instructions {
    public static void main(String[] args) {
        partsOfAWord();
        allBytes();
        wholeInstructions();
        cutInstructions();
        noInstructions();
        jumps();
        conditionalJumps();
        firstAndLastPlace();
        appendedWhileUnderWay();
        Check.end();
    }

    /** "Appends the k lowest bytes of word (k is 1 .. 4), the highest of them first". */
    private static void partsOfAWord() {
        int[][] parts = {{4}, {1, 3}, {3, 1}, {2, 2}, {1, 1, 2}, {1, 2, 1}, {2, 1, 1}, {1, 1, 1, 1}};
        for (int number : new int[] {0x81C2E3F4, 0x7F80FF00, 0x00FF807F, -1, 0, 1, Integer.MIN_VALUE}) {
            for (int[] part : parts) {
                TaleMachine m = Tale.with(0, 0, 0, WORD);
                int left = 4;
                for (int k : part) {
                    left -= k;
                    // What stands above the k lowest bytes must not count.
                    int above = k == 4 ? 0 : 0x5A5A5A5A << 8 * k;
                    int lowest = k == 4 ? -1 : (1 << 8 * k) - 1;
                    Check.yes("code", m.code(above | number >>> 8 * left & lowest, k));
                }
                Check.yes("code", m.code(END, 1));
                m.property(0, 0, METHOD, 0);
                m.begin(0, 0);
                Check.same("in parts " + Arrays.toString(part), Tale.rest(m), "1 said result 2:" + number);
            }
        }
    }

    /** A method that ends the code: its address is such that its last byte is the length's last. */
    private static Story ending(String name, int length, int... method) {
        int address = length - method.length;
        return Story.with(name).write(new int[address]).write(method)
                .then(Call.property(2, 7, METHOD, address), Call.begin(2, 7));
    }

    /** "at most 300 bytes at the addresses 0, 1, ...": each of them can be the place of an instruction. */
    private static void allBytes() {
        TaleMachine m = ending("300 nothings", 300, new int[300]).machine();
        for (int done = 1; done <= 297; done++) {
            Check.same("goes on", m.run(1), 0);
        }
        Check.same("all done", m.show(1), 300);
        Check.same("there is no instruction at 300", m.run(1) + " at " + m.show(1), "3 at 300");
    }

    /** Each instruction, with the bytes that belong to it, can be the last in the code. */
    private static void wholeInstructions() {
        for (int length : new int[] {40, 255, 256, 257, 299, 300}) {
            for (Sample sample : Sample.ALL) {
                Story story = ending("at the end of " + length + ": " + sample.instruction(), length,
                        Tale.join(Tale.bytes(0, 1, 0), sample.puts(sample.needs()), sample.bytes()))
                        .then(Call.run(sample.needs()));
                Twins.done(story, sample.due());
            }
        }
    }

    /** "a place, or bytes that belong to it, outside of the code": the same, with less and less of it there. */
    private static void cutInstructions() {
        for (int length : new int[] {40, 299, 300}) {
            for (Sample sample : Sample.ALL) {
                for (int there = 0; there < sample.bytes().length; there++) {
                    int[] part = Arrays.copyOf(sample.bytes(), there);
                    Twins.fault(ending(length + ": " + there + " bytes of " + sample.instruction(), length,
                            Tale.join(Tale.bytes(0, 1, 0), sample.puts(sample.needs()), part))
                            .then(Call.run(sample.needs())));
                }
            }
        }
    }

    /** "a byte that is no instruction": 35 .. 255, whatever stands on the stack and behind it. */
    private static void noInstructions() {
        for (int b = 35; b <= 255; b++) {
            Twins.fault(Story.begun("byte " + b, 0, 1, 0, BYTE, 1, BYTE, 2, PUT_OBJECT, 0, b, 0, 0, 0, 0, 0)
                    .then(Call.run(3)));
        }
        Check.same("34 is one", Tale.told(0, 0, 0, 34, 0, END), "1 said result 0:0");
    }

    private static final int MIDDLE = 140;

    private static Story amidst(String name, int... bytes) {
        return Story.begun(name, Tale.join(new int[MIDDLE], bytes, new int[MIDDLE]));
    }

    /** "19 b: goes on b bytes (-128 .. 127) behind this instruction's end": every byte. */
    private static void jumps() {
        for (int b = -128; b <= 127; b++) {
            TaleMachine m = Twins.done(amidst("goes on " + b, JUMP, b).then(Call.run(MIDDLE - 3)), 0);
            Check.same("goes on " + b, m.show(1), MIDDLE + 2 + b);
        }
    }

    /** "20 b: takes a value; goes on there if it is FALSE", otherwise behind its end. */
    private static void conditionalJumps() {
        for (int b : new int[] {-128, -127, -3, -2, -1, 0, 1, 2, 126, 127}) {
            for (int put : new int[] {PUT_NIL, PUT_TRUE}) {
                Story story = amidst("goes on " + b + " after " + put, put, UNLESS, b).then(Call.run(MIDDLE - 2));
                TaleMachine m = Twins.done(story, 0);
                Check.same(story.name(), m.show(1), MIDDLE + 3 + (put == PUT_NIL ? b : 0));
                Check.same("the value is taken", Tale.stack(m), "");
            }
        }
    }

    /** The places 0 and length - 1 are in the code, -1 and length are not: going there is done, going on is a fault. */
    private static void firstAndLastPlace() {
        int length = 20;
        int[] places = {0, length - 1, -1, length, -100, 100};
        for (int place : places) {
            for (int instruction : new int[] {JUMP, UNLESS}) {
                int[] code = Tale.join(Tale.bytes(0, 0, 0, PUT_NIL, instruction, place - 6), new int[length - 6]);
                Story story = Story.begun(instruction + " to " + place, code).then(Call.run(1));
                TaleMachine m = Twins.done(story, 0);
                Check.same("the place", m.show(1), place);
                if (place >= 0 && place < length) {
                    Check.same("goes on from " + place, m.run(1), 0);
                } else {
                    Twins.fault(story.then(Call.run(1)));
                }
            }
        }
    }

    /** What is appended while a run is under way is there for the next instruction. */
    private static void appendedWhileUnderWay() {
        Story story = Story.begun("three of four bytes", 0, 0, 0, NOTHING, CALL, 0, 0).then(Call.run(1));
        Twins.fault(story);
        TaleMachine m = Twins.done(story.write(0).named("and the fourth"), 0);
        Check.same("called", m.show(0) + " at " + m.show(1), "2 at 3");
        TaleMachine over = story.then(Call.run(1)).write(0).machine();
        Check.same("but a fault stays one", over.run(9) + " at " + over.show(1), "3 at 4");
    }
}
