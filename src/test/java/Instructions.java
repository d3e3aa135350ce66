/** The document's instructions and kinds by name, for tests that write code. */
interface Instructions {
    int NIL = 0;
    int TRUE = 1;
    int NUMBER = 2;
    int OBJECT = 3;
    int METHOD = 4;

    int NOTHING = 0;
    int BYTE = 1;
    int WORD = 2;
    int PUT_NIL = 3;
    int PUT_TRUE = 4;
    int PUT_OBJECT = 5;
    int PUT_METHOD = 6;
    int LOCAL = 7;
    int INTO = 8;
    int SELF = 9;
    int AGAIN = 10;
    int DROP = 11;
    int PLUS = 12;
    int MINUS = 13;
    int TIMES = 14;
    int OVER = 15;
    int LESS = 16;
    int LIKE = 17;
    int NOT = 18;
    int JUMP = 19;
    int UNLESS = 20;
    int ASK = 21;
    int SET = 22;
    int INHERITED = 23;
    int CALL = 24;
    int END = 25;
    int END_NIL = 26;
    int THROW = 27;
    int MAKE = 28;
    int TEST_OF = 29;
    int SAY = 30;
    int POINT = 31;
    int UNDO = 32;
    int SAVE = 33;
    int LOAD = 34;
}
