/** Promises 21 and 22, what is saved and what refused calls leave: at the last value that is fine and the first that is not. */
public final class UndoEdgesTest {
    public static void main(String[] args) throws Exception {
        promise21SixStates();
        promise21EachUndoableCall();
        promise21OtherCallsSaveNothing();
        promise21RefusedCallsSaveNothing();
        promise21TheStateIsWithoutTheText();
        promise22Empty();
        promise22Lists();
        promise22WonMarbles();
        promise22Overflow();
        Script.finish();
    }

    private static void promise21SixStates() throws Exception {
        Script.run("Promise 21: NOT_POSSIBLE if no state is saved",
            "undo() = NOT_POSSIBLE", "pass() = 1", "undo() = 0", "undo() = NOT_POSSIBLE", "undo() = NOT_POSSIBLE",
            "count(2) = 0");
        Script.run("Promise 21: six states are saved",
            "putMarble(0, 0, 1, 0) = 0", "putMarble(1, 0, 1, 0) = 1", "putMarble(2, 0, 1, 0) = 2",
            "putMarble(3, 0, 1, 0) = 3", "putMarble(4, 0, 1, 0) = 4", "putMarble(5, 0, 1, 0) = 5", "undo() = 5",
            "count(0) = 5", "undo() = 4", "count(0) = 4", "undo() = 3", "count(0) = 3", "undo() = 2", "count(0) = 2",
            "undo() = 1", "count(0) = 1", "undo() = 0", "count(0) = 0", "undo() = NOT_POSSIBLE");
        Script.run("Promise 21: when a seventh one is saved, the oldest one is discarded",
            "putMarble(0, 0, 1, 0) = 0", "putMarble(1, 0, 1, 0) = 1", "putMarble(2, 0, 1, 0) = 2",
            "putMarble(3, 0, 1, 0) = 3", "putMarble(4, 0, 1, 0) = 4", "putMarble(5, 0, 1, 0) = 5",
            "putMarble(6, 0, 1, 0) = 6", "undo() = 5", "count(0) = 6", "undo() = 4", "undo() = 3", "undo() = 2",
            "undo() = 1", "undo() = 0", "count(0) = 1", "at(0, 0) = 0", "undo() = NOT_POSSIBLE", "count(0) = 1");
        Script.run("Promise 21: behind an undo there is room for one more, and the rows wrap around again and again",
            "pass() = 1", "pass() = 2", "pass() = 0", "pass() = 1", "pass() = 2", "pass() = 0", "undo() = 5",
            "pass() = 0", "pass() = 1", "undo() = 5", "undo() = 4", "pass() = 0", "pass() = 1", "pass() = 2",
            "pass() = 0", "pass() = 1", "pass() = 2", "pass() = 0", "pass() = 1", "undo() = 5", "count(2) = 0",
            "undo() = 4", "count(2) = 2", "undo() = 3", "count(2) = 1", "undo() = 2", "count(2) = 0", "undo() = 1",
            "count(2) = 2", "undo() = 0", "count(2) = 1", "undo() = NOT_POSSIBLE", "count(2) = 1");
        Script.run("Promise 21: an undone call is not brought back by the next undo",
            "pass() = 1", "pass() = 2", "undo() = 1", "count(2) = 1", "undo() = 0", "count(2) = 0",
            "undo() = NOT_POSSIBLE");
    }

    private static void promise21EachUndoableCall() throws Exception {
        Script.run("Promise 21: putMarble", "putMarble(3, 4, 2, 1) = 0", "undo() = 0", "count(0) = 0", "at(3, 4) = NONE");
        Script.run("Promise 21: drawRing", "drawRing(3, 4, 2) = 0", "undo() = 0", "count(1) = 0", "ring(0, 0) = NO_SUCH",
            "putMarble(3, 4, 1, 0) = 0", "marble(0, 5) = 0", "wayOut(0) = 0");
        Script.run("Promise 21: move", "putMarble(3, 4, 2, 1) = 0", "move(0, 5, 6) = 0", "undo() = 1", "at(3, 4) = 0",
            "at(5, 6) = NONE");
        Script.run("Promise 21: clear", "drawRing(3, 4, 2) = 0", "putMarble(3, 4, 2, 1) = 0", "clear() = 1", "undo() = 2",
            "at(3, 4) = 0", "ring(0, 3) = 1", "marble(0, 2) = 2");
        Script.run("Promise 21: flick",
            "drawRing(1, 10, 1) = 0", "putMarble(1, 10, 2, 1) = 0", "putMarble(2, 10, 2, 0) = 1",
            "flick(1, 6, 1) = 0", "undo() = 3", "count(2) = 0", "count(3) = 0", "count(4) = 0", "at(1, 10) = 0",
            "move(1, 1, 9) = 1", "flick(1, 4, 2) = 1", "count(3) = 1", "count(4) = 1", "count(5) = 1", "count(6) = 1",
            "undo() = 4", "count(3) = 0", "count(4) = 0", "count(5) = 0", "count(6) = 0", "ring(0, 2) = 1",
            "score(0) = 0", "score(1) = 0", "marble(0, 4) = NONE", "at(1, 10) = 0", "at(1, 9) = 1",
            "flick(1, 7, 3) = 0", "count(7) = 1", "undo() = 4", "count(7) = 0");
        Script.run("Promise 21: pass", "pass() = 1", "undo() = 0", "count(2) = 0");
        Script.run("Promise 21: readItems", "text(m0,0s1p0;r1,1:1)", "readItems() = 2", "undo() = 0", "count(0) = 0",
            "count(1) = 0");
    }

    private static void promise21OtherCallsSaveNothing() throws Exception {
        Script.run("Promise 21: asking, forecasts, text and undo itself save no state",
            "putMarble(3, 4, 2, 1) = 0", "drawRing(3, 4, 1) = 0", "count(0) = 1", "marble(0, 0) = 3", "ring(0, 0) = 3",
            "at(3, 4) = 0", "score(0) = 0", "leader() = 0", "ifFlicked(0, 2, 1, 0) = 0", "bestFlick(0) = NONE",
            "wayOut(0) = 1", "type(109) = 1", "syntaxError() = 1", "clearText() = 1", "undo() = 1", "undo() = 0",
            "undo() = NOT_POSSIBLE");
    }

    private static void promise21RefusedCallsSaveNothing() throws Exception {
        Script.run("Promise 21: calls that return an error code save no state and change nothing",
            "drawRing(10, 10, 1) = 0", "putMarble(10, 10, 1, 1) = 0", "putMarble(9, 10, 1, 0) = 1",
            "flick(1, 2, 2) = 1", "putMarble(31, 0, 1, 0) = NO_SUCH", "putMarble(9, 9, 0, 0) = BAD_VALUE",
            "putMarble(9, 10, 1, 0) = NOT_POSSIBLE", "drawRing(0, 31, 1) = NO_SUCH", "drawRing(0, 0, 16) = BAD_VALUE",
            "move(2, 0, 0) = NO_SUCH", "move(0, 0, 0) = NOT_POSSIBLE", "move(1, 9, 10) = NOT_POSSIBLE",
            "flick(2, 0, 1) = NO_SUCH", "flick(1, 0, 0) = BAD_VALUE", "flick(0, 0, 1) = NOT_POSSIBLE",
            "text(m3)", "readItems() = BAD_TEXT", "type(32) = BAD_VALUE", "clearText() = 2", "undo() = 3",
            "undo() = 2", "undo() = 1", "undo() = 0", "undo() = NOT_POSSIBLE");
        Script.run("Promise 21: a refused call does not discard the oldest of six states",
            "pass() = 1", "pass() = 2", "pass() = 0", "pass() = 1", "pass() = 2", "pass() = 0",
            "putMarble(31, 0, 1, 0) = NO_SUCH", "drawRing(0, 0, 0) = BAD_VALUE", "move(0, 0, 0) = NO_SUCH",
            "flick(0, 0, 1) = NO_SUCH", "readItems() = BAD_TEXT", "undo() = 5", "undo() = 4", "undo() = 3",
            "undo() = 2", "undo() = 1", "undo() = 0", "count(2) = 0", "undo() = NOT_POSSIBLE");
    }

    private static void promise21TheStateIsWithoutTheText() throws Exception {
        Script.run("Promise 21: the text is not part of the state",
            "type(109) = 1", "pass() = 1", "type(51) = 2", "undo() = 0", "syntaxError() = 2", "type(44) = 3",
            "undo() = NOT_POSSIBLE", "clearText() = 3", "pass() = 1", "undo() = 0", "clearText() = 0");
        Script.run("Promise 21: the text stays when all the marbles and rings are taken away and brought back",
            "putMarble(0, 0, 1, 0) = 0", "type(109) = 1", "clear() = 1", "syntaxError() = 1", "undo() = 1",
            "syntaxError() = 1", "clearText() = 1");
    }

    private static void promise22Empty() throws Exception {
        Script.run("Promise 22: the empty playground, the hash starts at 4",
            "digest() = " + Script.hash(0, 0, 0, 0, 0, 0, 0, 0, 0, 0, 0, 0), "pass() = 1",
            "digest() = " + Script.hash(0, 0, 1, 0, 0, 0, 0, 0, 0, 0, 0, 0), "text(m3)",
            "digest() = " + Script.hash(0, 0, 1, 0, 0, 0, 0, 0, 0, 0, 0, 0), "undo() = 0",
            "digest() = " + Script.hash(0, 0, 0, 0, 0, 0, 0, 0, 0, 0, 0, 0));
    }

    private static void promise22Lists() throws Exception {
        Script.run("Promise 22: rings alone, marbles alone, both",
            "drawRing(0, 30, 15) = 0", "digest() = " + Script.hash(0, 1, 0, 0, 0, 0, 0, 0, 0, 30, 15, 0, 193, 0, 0, 0, 0),
            "undo() = 0", "putMarble(0, 29, 3, 2) = 0",
            "digest() = " + Script.hash(1, 0, 0, 0, 0, 0, 0, 0, 0, 29, 3, 2, -1006, 0, 0, 0, 0, 0, 0),
            "drawRing(0, 30, 15) = 0", "digest() = " + Script.hash(1, 1, 0, 0, 0, 0, 0, 0, 0, 29, 3, 2, -1006, 1,
                0, 30, 15, 1, 193, 0, 0, 0, 0, 11));
        // From 15, 15 the straight ways end at the walls, and the diagonal ones lead through the rings of 15.
        Script.run("Promise 22: wayOut of a marble may be NONE",
            "drawRing(15, 0, 15) = 0", "drawRing(15, 15, 15) = 1", "drawRing(15, 30, 15) = 2",
            "putMarble(15, 15, 1, 0) = 0", "digest() = " + Script.hash(1, 3, 0, 0, 0, 0, 0, 0, 15, 15, 1, 0, -1006, 7,
                15, 0, 15, 1, 370, 15, 15, 15, 1, 709, 15, 30, 15, 1, 370, 0, 0, 0, 0, -1006));
    }

    private static void promise22WonMarbles() throws Exception {
        Script.run("Promise 22: numbers of a won marble and its wayOut as they are answered",
            "drawRing(1, 10, 1) = 0", "putMarble(1, 10, 3, 0) = 0", "putMarble(1, 9, 3, 1) = 1", "pass() = 1",
            "flick(1, 4, 2) = 1", "pass() = 2", "pass() = 0", "pass() = 1", "flick(1, 7, 1) = 0",
            "digest() = " + Script.hash(2, 1, 2, 2, 1, 1, 1, 0, -1006, -1006, 3, 0, 1, -1006, 0, 8, 3, 1, -1006, 0,
                1, 10, 2, 0, 12, -3, 3, 0, 1, -1003, 0));
    }

    private static void promise22Overflow() throws Exception {
        Script.run("Promise 22: long arithmetic with overflow",
            "putMarble(30, 30, 3, 2) = 0", "putMarble(29, 30, 3, 2) = 1",
            "digest() = " + Script.hash(2, 0, 0, 0, 0, 0, 0, 0, 30, 30, 3, 2, -1006, 0, 29, 30, 3, 2, -1006, 0,
                0, 0, 0, 0, 0, 0));
    }
}
