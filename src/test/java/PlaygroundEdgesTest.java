/** Promises 1 to 5: each boundary that the document names, at the last value that is fine and at the first that is not. */
public final class PlaygroundEdgesTest {
    public static void main(String[] args) throws Exception {
        promise1();
        promise2Ranges();
        promise2Points();
        promise2Limit();
        promise2OrderOfCodes();
        promise3Ranges();
        promise3Inside();
        promise3LimitAndOrderOfCodes();
        promise4Ranges();
        promise4Refusals();
        promise4IsNoFlick();
        promise5();
        Script.finish();
    }

    private static void promise1() throws Exception {
        Script.run("Promise 1: an empty playground, an empty text, nothing saved",
            "count(0) = 0", "count(1) = 0", "count(2) = 0", "count(3) = 0", "count(4) = 0", "count(5) = 0",
            "count(6) = 0", "count(7) = 0", "marble(0, 0) = NO_SUCH", "ring(0, 0) = NO_SUCH", "at(0, 0) = NONE",
            "at(30, 30) = NONE", "score(0) = 0", "score(1) = 0", "score(2) = 0", "leader() = 0",
            "move(0, 0, 0) = NO_SUCH", "flick(0, 0, 1) = NO_SUCH", "ifFlicked(0, 0, 1, 0) = NO_SUCH",
            "bestFlick(0) = NO_SUCH", "wayOut(0) = NO_SUCH", "syntaxError() = 0", "readItems() = BAD_TEXT",
            "clearText() = 0", "undo() = NOT_POSSIBLE", "putMarble(0, 0, 1, 0) = 0", "drawRing(0, 0, 1) = 0");
    }

    private static void promise2Ranges() throws Exception {
        Script.run("Promise 2: x is 0 to 30",
            "putMarble(-1, 7, 1, 0) = NO_SUCH", "putMarble(0, 7, 1, 0) = 0", "putMarble(30, 7, 1, 0) = 1",
            "putMarble(31, 7, 1, 0) = NO_SUCH", "putMarble(-2147483648, 7, 1, 0) = NO_SUCH",
            "putMarble(2147483647, 7, 1, 0) = NO_SUCH", "at(0, 7) = 0", "at(30, 7) = 1", "count(0) = 2");
        Script.run("Promise 2: y is 0 to 30",
            "putMarble(7, -1, 1, 0) = NO_SUCH", "putMarble(7, 0, 1, 0) = 0", "putMarble(7, 30, 1, 0) = 1",
            "putMarble(7, 31, 1, 0) = NO_SUCH", "putMarble(7, -2147483648, 1, 0) = NO_SUCH",
            "putMarble(7, 2147483647, 1, 0) = NO_SUCH", "at(7, 0) = 0", "at(7, 30) = 1", "count(0) = 2");
        Script.run("Promise 2: size is 1 to 3",
            "putMarble(7, 7, 0, 0) = BAD_VALUE", "putMarble(7, 7, 1, 0) = 0", "putMarble(8, 7, 3, 0) = 1",
            "putMarble(9, 7, 4, 0) = BAD_VALUE", "putMarble(9, 7, -1, 0) = BAD_VALUE",
            "putMarble(9, 7, -2147483648, 0) = BAD_VALUE", "putMarble(9, 7, 2147483647, 0) = BAD_VALUE",
            "marble(0, 2) = 1", "marble(1, 2) = 3", "count(0) = 2");
        Script.run("Promise 2: owner is 0 to 2",
            "putMarble(7, 7, 1, -1) = NO_SUCH", "putMarble(7, 7, 1, 0) = 0", "putMarble(8, 7, 1, 2) = 1",
            "putMarble(9, 7, 1, 3) = NO_SUCH", "putMarble(9, 7, 1, -2147483648) = NO_SUCH",
            "putMarble(9, 7, 1, 2147483647) = NO_SUCH", "marble(0, 3) = 0", "marble(1, 3) = 2", "count(0) = 2");
    }

    private static void promise2Points() throws Exception {
        Script.run("Promise 2: on each point there is at most one marble, the points around it are free",
            "putMarble(7, 7, 1, 0) = 0", "putMarble(7, 7, 2, 1) = NOT_POSSIBLE", "putMarble(6, 7, 1, 0) = 1",
            "putMarble(8, 7, 1, 0) = 2", "putMarble(7, 6, 1, 0) = 3", "putMarble(7, 8, 1, 0) = 4",
            "putMarble(6, 7, 1, 0) = NOT_POSSIBLE", "at(7, 7) = 0", "at(7, 8) = 4", "marble(0, 2) = 1");
        Script.run("Promise 2: x and y are not mixed up",
            "putMarble(3, 4, 1, 0) = 0", "putMarble(4, 3, 1, 0) = 1", "marble(0, 0) = 3", "marble(0, 1) = 4");
        Script.run("Promise 2: a marble that was won leaves its point, and its number stays",
            "drawRing(10, 10, 1) = 0", "putMarble(10, 10, 3, 1) = 0", "putMarble(9, 10, 3, 0) = 1",
            "putMarble(10, 10, 1, 0) = NOT_POSSIBLE", "flick(1, 2, 2) = 1", "at(12, 10) = NONE",
            "putMarble(12, 10, 1, 2) = 2", "putMarble(10, 10, 1, 2) = 3", "marble(0, 2) = 3", "marble(1, 2) = 3",
            "marble(2, 0) = 12", "count(0) = 4");
        Script.run("Promise 2: a marble that was moved away leaves its point",
            "putMarble(7, 7, 1, 0) = 0", "move(0, 8, 7) = 0", "putMarble(8, 7, 1, 0) = NOT_POSSIBLE",
            "putMarble(7, 7, 1, 0) = 1");
    }

    private static void promise2Limit() throws Exception {
        Script.run("Promise 2: LIMIT if there are 12 marbles",
            row("putMarble(11, 0, 1, 0) = 11", "putMarble(12, 0, 1, 0) = LIMIT", "count(0) = 12", "at(11, 0) = 11",
                "at(12, 0) = NONE", "marble(11, 0) = 11", "marble(12, 0) = NO_SUCH", "undo() = 5",
                "putMarble(12, 0, 1, 0) = 11", "putMarble(13, 0, 1, 0) = LIMIT"));
        Script.run("Promise 2: LIMIT if there are 12 marbles, those that were won included",
            row("drawRing(15, 0, 1) = 0", "move(1, 15, 0) = 1", "move(0, 14, 0) = 1", "flick(0, 2, 2) = 1",
                "count(5) = 1", "putMarble(20, 0, 1, 0) = 11", "putMarble(21, 0, 1, 0) = LIMIT", "count(0) = 12",
                "at(21, 0) = NONE"));
        Script.run("Promise 2: behind clear() there is room for 12 again",
            "text(m0,9s1p0)", "readItems() = 1", "clear() = 1", "text(m0,1s1p0;m1,1s1p0;m2,1s1p0;m3,1s1p0)",
            "readItems() = 4", "text(m4,1s1p0;m5,1s1p0;m6,1s1p0;m7,1s1p0)", "readItems() = 4",
            "putMarble(8, 1, 1, 0) = 8", "putMarble(9, 1, 1, 0) = 9", "putMarble(10, 1, 1, 0) = 10",
            "putMarble(11, 1, 1, 0) = 11", "putMarble(12, 1, 1, 0) = LIMIT");
    }

    private static void promise2OrderOfCodes() throws Exception {
        Script.run("Promise 2: NO_SUCH, BAD_VALUE, NOT_POSSIBLE, LIMIT, in this order",
            row("putMarble(11, 0, 1, 0) = 11",
                "putMarble(12, 0, 1, 0) = LIMIT", "putMarble(11, 0, 1, 0) = NOT_POSSIBLE",
                "putMarble(11, 0, 0, 0) = BAD_VALUE", "putMarble(12, 0, 4, 0) = BAD_VALUE",
                "putMarble(11, 0, 4, 3) = NO_SUCH", "putMarble(11, 0, 1, -1) = NO_SUCH",
                "putMarble(12, 0, 1, 3) = NO_SUCH", "putMarble(31, 0, 4, 0) = NO_SUCH",
                "putMarble(0, 31, 0, 0) = NO_SUCH", "putMarble(31, 0, 1, 0) = NO_SUCH", "count(0) = 12"));
        Script.run("Promise 2: the same order below the limit",
            "putMarble(5, 5, 1, 0) = 0", "putMarble(5, 5, 1, 0) = NOT_POSSIBLE", "putMarble(5, 5, 4, 0) = BAD_VALUE",
            "putMarble(5, 5, 1, 3) = NO_SUCH", "putMarble(5, 6, 4, 3) = NO_SUCH", "putMarble(-1, 6, 0, 1) = NO_SUCH",
            "count(0) = 1", "undo() = 0", "undo() = NOT_POSSIBLE");
    }

    /** Eleven marbles, 0 to 10, in a row at the wall, of the players 0, 1 and 2 in turn, and then the lines. */
    private static String[] row(String... lines) {
        String[] all = new String[11 + lines.length];
        for (int i = 0; i < 11; i++) {
            all[i] = "putMarble(" + i + ", 0, 1, " + i % 3 + ") = " + i;
        }
        System.arraycopy(lines, 0, all, 11, lines.length);
        return all;
    }

    private static void promise3Ranges() throws Exception {
        Script.run("Promise 3: x is 0 to 30",
            "drawRing(-1, 7, 1) = NO_SUCH", "drawRing(0, 7, 1) = 0", "drawRing(30, 7, 1) = 1",
            "drawRing(31, 7, 1) = NO_SUCH", "drawRing(-2147483648, 7, 1) = NO_SUCH",
            "drawRing(2147483647, 7, 1) = NO_SUCH", "ring(0, 0) = 0", "ring(1, 0) = 30", "count(1) = 2");
        Script.run("Promise 3: y is 0 to 30",
            "drawRing(7, -1, 1) = NO_SUCH", "drawRing(7, 0, 1) = 0", "drawRing(7, 30, 1) = 1",
            "drawRing(7, 31, 1) = NO_SUCH", "drawRing(7, -2147483648, 1) = NO_SUCH",
            "drawRing(7, 2147483647, 1) = NO_SUCH", "ring(0, 1) = 0", "ring(1, 1) = 30", "count(1) = 2");
        Script.run("Promise 3: radius is 1 to 15",
            "drawRing(7, 7, 0) = BAD_VALUE", "drawRing(7, 7, 1) = 0", "drawRing(7, 7, 15) = 1",
            "drawRing(7, 7, 16) = BAD_VALUE", "drawRing(7, 7, -1) = BAD_VALUE",
            "drawRing(7, 7, -2147483648) = BAD_VALUE", "drawRing(7, 7, 2147483647) = BAD_VALUE",
            "ring(0, 2) = 1", "ring(1, 2) = 15", "count(1) = 2");
    }

    private static void promise3Inside() throws Exception {
        Script.run("Promise 3: a point is in a ring up to the square of the radius, radius 1",
            "drawRing(10, 10, 1) = 0", "putMarble(11, 10, 1, 0) = 0", "putMarble(11, 11, 1, 0) = 1",
            "putMarble(10, 9, 1, 0) = 2", "putMarble(12, 10, 1, 0) = 3", "ring(0, 3) = 5", "ring(0, 4) = 5");
        Script.run("Promise 3: a point is in a ring up to the square of the radius, radius 5",
            "drawRing(10, 10, 5) = 0", "putMarble(13, 14, 1, 0) = 0", "putMarble(14, 7, 1, 0) = 1",
            "putMarble(5, 10, 1, 0) = 2", "putMarble(15, 11, 1, 0) = 3", "putMarble(14, 14, 1, 0) = 4",
            "putMarble(10, 4, 1, 0) = 5", "ring(0, 3) = 7", "marble(0, 5) = 1", "marble(3, 5) = 0",
            "ring(0, 4) = 81");
        Script.run("Promise 3: a point is in a ring up to the square of the radius, radius 15",
            "drawRing(0, 0, 15) = 0", "putMarble(9, 12, 1, 0) = 0", "putMarble(12, 9, 1, 0) = 1",
            "putMarble(15, 0, 1, 0) = 2", "putMarble(15, 1, 1, 0) = 3", "putMarble(10, 12, 1, 0) = 4",
            "putMarble(0, 16, 1, 0) = 5", "ring(0, 3) = 7");
    }

    private static void promise3LimitAndOrderOfCodes() throws Exception {
        Script.run("Promise 3: LIMIT if there are 4 rings",
            "drawRing(7, 7, 1) = 0", "drawRing(7, 7, 1) = 1", "drawRing(7, 7, 1) = 2", "drawRing(8, 9, 10) = 3",
            "drawRing(7, 7, 1) = LIMIT", "drawRing(20, 20, 2) = LIMIT", "count(1) = 4", "ring(3, 0) = 8",
            "ring(3, 1) = 9", "ring(3, 2) = 10", "ring(4, 0) = NO_SUCH", "undo() = 3", "drawRing(1, 1, 1) = 3",
            "drawRing(1, 1, 1) = LIMIT");
        Script.run("Promise 3: behind clear() there is room for 4 again",
            "drawRing(7, 7, 1) = 0", "clear() = 0", "drawRing(7, 7, 1) = 0", "drawRing(7, 7, 1) = 1",
            "drawRing(7, 7, 1) = 2", "drawRing(7, 7, 1) = 3", "drawRing(7, 7, 1) = LIMIT");
        Script.run("Promise 3: NO_SUCH, BAD_VALUE, LIMIT, in this order",
            "drawRing(31, 7, 16) = NO_SUCH", "drawRing(7, -1, 0) = NO_SUCH",
            "drawRing(7, 7, 1) = 0", "drawRing(7, 7, 1) = 1", "drawRing(7, 7, 1) = 2", "drawRing(7, 7, 1) = 3",
            "drawRing(7, 7, 15) = LIMIT", "drawRing(7, 7, 16) = BAD_VALUE", "drawRing(7, 7, 0) = BAD_VALUE",
            "drawRing(31, 7, 1) = NO_SUCH", "drawRing(7, 31, 0) = NO_SUCH", "count(1) = 4");
    }

    private static void promise4Ranges() throws Exception {
        Script.run("Promise 4: the marble is 0 to the last one",
            "move(0, 3, 3) = NO_SUCH", "putMarble(7, 7, 1, 0) = 0", "putMarble(8, 7, 1, 1) = 1",
            "move(-1, 3, 3) = NO_SUCH", "move(2, 3, 3) = NO_SUCH", "move(12, 3, 3) = NO_SUCH",
            "move(-2147483648, 3, 3) = NO_SUCH", "move(2147483647, 3, 3) = NO_SUCH", "move(0, 3, 3) = 0",
            "move(1, 4, 3) = 0", "at(3, 3) = 0", "at(4, 3) = 1", "at(7, 7) = NONE", "at(8, 7) = NONE");
        Script.run("Promise 4: x is 0 to 30",
            "putMarble(7, 7, 1, 0) = 0", "move(0, -1, 7) = NO_SUCH", "move(0, 31, 7) = NO_SUCH",
            "move(0, -2147483648, 7) = NO_SUCH", "move(0, 2147483647, 7) = NO_SUCH", "move(0, 0, 7) = 0",
            "at(0, 7) = 0", "move(0, 30, 7) = 0", "at(30, 7) = 0", "at(0, 7) = NONE");
        Script.run("Promise 4: y is 0 to 30",
            "putMarble(7, 7, 1, 0) = 0", "move(0, 7, -1) = NO_SUCH", "move(0, 7, 31) = NO_SUCH",
            "move(0, 7, -2147483648) = NO_SUCH", "move(0, 7, 2147483647) = NO_SUCH", "move(0, 7, 0) = 0",
            "at(7, 0) = 0", "move(0, 7, 30) = 0", "at(7, 30) = 0", "at(7, 0) = NONE");
        Script.run("Promise 4: the number of rings in which it is then, from none to all four",
            "drawRing(10, 10, 1) = 0", "drawRing(10, 10, 2) = 1", "drawRing(10, 10, 3) = 2", "drawRing(10, 10, 4) = 3",
            "putMarble(0, 0, 1, 0) = 0", "move(0, 15, 10) = 0", "move(0, 14, 10) = 1", "move(0, 13, 10) = 2",
            "move(0, 12, 10) = 3", "move(0, 11, 10) = 4", "move(0, 10, 10) = 4", "marble(0, 5) = 15");
    }

    private static void promise4Refusals() throws Exception {
        Script.run("Promise 4: NOT_POSSIBLE if a marble lies on the point, also itself",
            "putMarble(7, 7, 1, 0) = 0", "putMarble(8, 7, 1, 0) = 1", "move(0, 8, 7) = NOT_POSSIBLE",
            "move(0, 7, 7) = NOT_POSSIBLE", "move(0, 9, 7) = 0", "move(1, 7, 7) = 0", "move(0, 8, 7) = 0",
            "at(8, 7) = 0", "at(7, 7) = 1", "undo() = 4");
        Script.run("Promise 4: NOT_POSSIBLE if it was won",
            "drawRing(10, 10, 1) = 0", "putMarble(10, 10, 1, 1) = 0", "putMarble(9, 10, 1, 0) = 1",
            "flick(1, 2, 2) = 1", "move(0, 20, 20) = NOT_POSSIBLE", "move(0, 9, 10) = NOT_POSSIBLE",
            "move(0, 12, 10) = NOT_POSSIBLE", "move(1, 12, 10) = 1", "undo() = 4", "undo() = 3", "move(0, 20, 20) = 0");
        Script.run("Promise 4: NO_SUCH, NOT_POSSIBLE, in this order",
            "drawRing(10, 10, 1) = 0", "putMarble(10, 10, 1, 1) = 0", "putMarble(9, 10, 1, 0) = 1",
            "flick(1, 2, 2) = 1", "move(0, 31, 20) = NO_SUCH", "move(0, 20, -1) = NO_SUCH",
            "move(2, 9, 10) = NO_SUCH", "move(-1, 9, 10) = NO_SUCH", "move(2, 31, 31) = NO_SUCH");
    }

    private static void promise4IsNoFlick() throws Exception {
        Script.run("Promise 4: a move is no flick, wins nothing and is for each player's marbles",
            "drawRing(10, 10, 1) = 0", "putMarble(10, 10, 1, 1) = 0", "putMarble(9, 10, 1, 2) = 1",
            "move(0, 12, 10) = 0", "move(1, 13, 10) = 0", "count(2) = 0", "count(3) = 0", "count(4) = 0",
            "count(5) = 0", "count(7) = 0", "marble(0, 4) = NONE", "score(0) = 0", "ring(0, 2) = 1");
    }

    private static void promise5() throws Exception {
        Script.run("Promise 5: nothing there to take away, and the state is saved all the same",
            "clear() = 0", "undo() = 0", "undo() = NOT_POSSIBLE");
        Script.run("Promise 5: 12 marbles, a won one among them",
            row("drawRing(15, 0, 1) = 0", "move(1, 15, 0) = 1", "move(0, 14, 0) = 1", "flick(0, 2, 2) = 1",
                "putMarble(20, 0, 1, 0) = 11", "clear() = 12", "count(0) = 0", "count(1) = 0", "count(5) = 0",
                "clear() = 0", "undo() = 5", "undo() = 4", "count(0) = 12", "count(5) = 1", "score(0) = 1"));
        Script.run("Promise 5: player 0 is on the move, and all numbers so far are 0",
            "drawRing(10, 10, 1) = 0", "putMarble(10, 10, 3, 0) = 0", "putMarble(9, 10, 3, 1) = 1",
            "putMarble(0, 5, 1, 1) = 2", "pass() = 1", "flick(1, 2, 2) = 1", "flick(2, 6, 1) = 0",
            "count(0) = 3", "count(1) = 1", "count(2) = 2", "count(3) = 2", "count(4) = 1", "count(5) = 1",
            "count(6) = 1", "count(7) = 1", "score(0) = -3", "score(1) = 3", "leader() = 1", "clear() = 3",
            "count(0) = 0", "count(1) = 0", "count(2) = 0", "count(3) = 0", "count(4) = 0", "count(5) = 0",
            "count(6) = 0", "count(7) = 0", "score(0) = 0", "score(1) = 0", "leader() = 0", "ring(0, 0) = NO_SUCH",
            "marble(0, 0) = NO_SUCH", "at(1, 5) = NONE", "undo() = 5", "count(2) = 2", "count(3) = 2", "count(4) = 1",
            "count(5) = 1", "count(6) = 1", "count(7) = 1", "score(0) = -3", "score(1) = 3", "marble(0, 4) = 1",
            "ring(0, 2) = 2", "at(1, 5) = 2", "count(0) = 3", "count(1) = 1");
        Script.run("Promise 5: nothing of the old rings and wins is left for new marbles and rings",
            "drawRing(10, 10, 1) = 0", "putMarble(10, 10, 3, 1) = 0", "putMarble(9, 10, 3, 0) = 1", "flick(1, 2, 2) = 1",
            "clear() = 2", "putMarble(10, 10, 2, 2) = 0", "marble(0, 4) = NONE", "marble(0, 5) = 0", "wayOut(0) = 0",
            "ifFlicked(0, 2, 3, 4) = 1310", "score(0) = 0", "score(2) = 0", "drawRing(20, 20, 1) = 0", "ring(0, 3) = 0",
            "move(0, 21, 20) = 1");
        Script.run("Promise 5: the text and the saved states stay",
            "pass() = 1", "text(m1)", "clear() = 0", "syntaxError() = 2", "clearText() = 2", "undo() = 1",
            "count(2) = 1", "undo() = 0", "count(2) = 0", "undo() = NOT_POSSIBLE");
    }
}
