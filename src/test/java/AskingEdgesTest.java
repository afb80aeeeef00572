/** Promises 8 to 16: each boundary that the document names, at the last value that is fine and at the first that is not. */
public final class AskingEdgesTest {
    public static void main(String[] args) throws Exception {
        promise8();
        promise9();
        promise10();
        promise11();
        promise12();
        promise13();
        promise14Ranges();
        promise14Answers();
        promise15Refusals();
        promise15OuterFlicks();
        promise15Choice();
        promise16Refusals();
        promise16Steps();
        promise16Walls();
        Script.finish();
    }

    private static void promise8() throws Exception {
        Script.run("Promise 8: what is 0 to 7",
            "count(-1) = BAD_VALUE", "count(0) = 0", "count(7) = 0", "count(8) = BAD_VALUE",
            "count(-2147483648) = BAD_VALUE", "count(2147483647) = BAD_VALUE",
            "drawRing(1, 0, 15) = 0", "drawRing(1, 0, 2) = 1", "drawRing(1, 0, 1) = 2",
            "putMarble(15, 5, 1, 1) = 0", "putMarble(14, 5, 1, 0) = 1", "putMarble(0, 0, 1, 0) = 2",
            "putMarble(20, 20, 1, 0) = 3", "putMarble(21, 20, 1, 0) = 4",
            "flick(1, 2, 2) = 1", "count(5) = 1", "count(6) = 0", "flick(2, 7, 1) = 0", "count(7) = 2", "count(2) = 1",
            "pass() = 2", "pass() = 0", "flick(3, 2, 1) = 0", "count(0) = 5", "count(1) = 3", "count(2) = 1",
            "count(3) = 3", "count(4) = 2", "count(5) = 1", "count(6) = 0", "count(7) = 2");
        Script.run("Promise 8: a radius that grows from 14 to 15 counts, one that stays does not",
            "drawRing(0, 10, 15) = 0", "drawRing(1, 10, 14) = 1", "putMarble(15, 10, 1, 1) = 0",
            "putMarble(14, 10, 1, 0) = 1", "flick(1, 2, 1) = 1", "count(6) = 1", "ring(0, 2) = 15", "ring(1, 2) = 15");
        Script.run("Promise 8: a move, a pass and a forecast are no flicks",
            "putMarble(0, 0, 1, 0) = 0", "putMarble(5, 5, 1, 0) = 1", "move(0, 4, 5) = 0", "ifFlicked(0, 2, 40, 2) = 1",
            "bestFlick(0) = NONE", "pass() = 1", "count(3) = 0", "count(4) = 0", "count(7) = 0");
    }

    private static void promise9() throws Exception {
        Script.run("Promise 9: the marble is 0 to the last one, what is 0 to 5",
            "marble(0, 0) = NO_SUCH", "putMarble(3, 4, 2, 1) = 0", "putMarble(30, 29, 3, 2) = 1",
            "marble(-1, 0) = NO_SUCH", "marble(2, 0) = NO_SUCH", "marble(12, 0) = NO_SUCH",
            "marble(-2147483648, 0) = NO_SUCH", "marble(2147483647, 0) = NO_SUCH", "marble(0, -1) = BAD_VALUE",
            "marble(0, 6) = BAD_VALUE", "marble(1, -2147483648) = BAD_VALUE", "marble(1, 2147483647) = BAD_VALUE",
            "marble(0, 0) = 3", "marble(0, 1) = 4", "marble(0, 2) = 2", "marble(0, 3) = 1", "marble(0, 4) = NONE",
            "marble(0, 5) = 0", "marble(1, 0) = 30", "marble(1, 1) = 29", "marble(1, 2) = 3", "marble(1, 3) = 2");
        Script.run("Promise 9: NO_SUCH, BAD_VALUE, in this order",
            "marble(0, 6) = NO_SUCH", "marble(-1, -1) = NO_SUCH", "putMarble(3, 4, 2, 1) = 0", "marble(1, 6) = NO_SUCH",
            "marble(0, 6) = BAD_VALUE");
        Script.run("Promise 9: NONE for 0, 1 and 5 if it was won, and for 4 if it was not",
            "drawRing(10, 10, 1) = 0", "putMarble(10, 10, 3, 2) = 0", "putMarble(9, 10, 3, 1) = 1", "pass() = 1",
            "marble(0, 0) = 10", "marble(0, 1) = 10", "marble(0, 2) = 3", "marble(0, 3) = 2", "marble(0, 4) = NONE",
            "marble(0, 5) = 1", "flick(1, 2, 2) = 1", "marble(0, 0) = NONE", "marble(0, 1) = NONE", "marble(0, 2) = 3",
            "marble(0, 3) = 2", "marble(0, 4) = 1", "marble(0, 5) = NONE", "marble(0, 6) = BAD_VALUE",
            "marble(0, -1) = BAD_VALUE", "marble(1, 4) = NONE", "marble(1, 5) = 1", "undo() = 4",
            "marble(0, 4) = NONE", "marble(0, 5) = 1");
        Script.run("Promise 9: the set of rings, empty, the lowest, the highest, all",
            "putMarble(10, 10, 1, 0) = 0", "marble(0, 5) = 0", "drawRing(10, 10, 3) = 0", "marble(0, 5) = 1",
            "drawRing(10, 13, 1) = 1", "drawRing(10, 7, 1) = 2", "drawRing(13, 10, 1) = 3", "marble(0, 5) = 1",
            "move(0, 10, 13) = 2", "marble(0, 5) = 3", "move(0, 10, 7) = 2", "marble(0, 5) = 5",
            "move(0, 14, 10) = 1", "marble(0, 5) = 8", "move(0, 10, 11) = 1", "marble(0, 5) = 1");
    }

    private static void promise10() throws Exception {
        Script.run("Promise 10: the ring is 0 to the last one, what is 0 to 4",
            "ring(0, 0) = NO_SUCH", "drawRing(3, 4, 5) = 0", "drawRing(30, 29, 1) = 1", "ring(-1, 0) = NO_SUCH",
            "ring(2, 0) = NO_SUCH", "ring(4, 0) = NO_SUCH", "ring(-2147483648, 0) = NO_SUCH",
            "ring(2147483647, 0) = NO_SUCH", "ring(0, -1) = BAD_VALUE", "ring(0, 5) = BAD_VALUE",
            "ring(1, -2147483648) = BAD_VALUE", "ring(1, 2147483647) = BAD_VALUE", "ring(0, 0) = 3", "ring(0, 1) = 4",
            "ring(0, 2) = 5", "ring(0, 3) = 0", "ring(1, 0) = 30", "ring(1, 1) = 29", "ring(1, 2) = 1",
            "ring(1, 4) = 4");
        Script.run("Promise 10: NO_SUCH, BAD_VALUE, in this order",
            "ring(0, 5) = NO_SUCH", "ring(-1, -1) = NO_SUCH", "drawRing(3, 4, 5) = 0", "ring(1, 5) = NO_SUCH",
            "ring(0, 5) = BAD_VALUE");
        Script.run("Promise 10: the set of marbles, empty, the first and the twelfth",
            "drawRing(10, 10, 1) = 0", "ring(0, 3) = 0", "text(m9,9s1p0;m0,0s1p0;m1,0s1p0;m2,0s1p0;m3,0s1p0;m4,0s1p0)",
            "readItems() = 6", "text(m5,0s1p0;m6,0s1p0;m7,0s1p0;m8,0s1p0;m9,0s1p0;m10,9s1p0)", "readItems() = 6",
            "ring(0, 3) = 2048", "move(0, 10, 10) = 1", "ring(0, 3) = 2049", "move(11, 11, 11) = 0", "ring(0, 3) = 1");
        Script.run("Promise 10: the points in it, in the midst, at the walls and in the corners of the playground",
            "drawRing(1, 1, 1) = 0", "ring(0, 4) = 5", "drawRing(0, 1, 1) = 1", "ring(1, 4) = 4",
            "drawRing(0, 0, 1) = 2", "ring(2, 4) = 3", "drawRing(30, 30, 1) = 3", "ring(3, 4) = 3", "clear() = 0",
            "drawRing(15, 15, 15) = 0", "ring(0, 4) = 709", "drawRing(0, 15, 15) = 1", "ring(1, 4) = 370",
            "drawRing(0, 0, 15) = 2", "ring(2, 4) = 193", "drawRing(30, 0, 15) = 3", "ring(3, 4) = 193");
        Script.run("Promise 10: a marble that was won is in no ring",
            "drawRing(10, 10, 1) = 0", "drawRing(12, 10, 1) = 1", "putMarble(10, 10, 1, 1) = 0",
            "putMarble(10, 9, 1, 0) = 1", "ring(0, 3) = 3", "flick(1, 4, 2) = 1", "ring(0, 3) = 2", "ring(0, 2) = 2",
            "ring(0, 4) = 13", "ring(1, 2) = 1");
    }

    private static void promise11() throws Exception {
        Script.run("Promise 11: x and y are 0 to 30",
            "at(-1, 7) = NO_SUCH", "at(0, 7) = NONE", "at(30, 7) = NONE", "at(31, 7) = NO_SUCH", "at(7, -1) = NO_SUCH",
            "at(7, 0) = NONE", "at(7, 30) = NONE", "at(7, 31) = NO_SUCH", "at(-2147483648, 0) = NO_SUCH",
            "at(0, 2147483647) = NO_SUCH", "putMarble(0, 30, 1, 0) = 0", "putMarble(30, 0, 1, 1) = 1", "at(0, 30) = 0",
            "at(30, 0) = 1", "at(1, 30) = NONE", "at(0, 29) = NONE", "at(30, 30) = NONE", "at(0, 0) = NONE");
    }

    private static void promise12() throws Exception {
        Script.run("Promise 12: the player is 0 to 2, the score may be negative",
            "score(-1) = NO_SUCH", "score(0) = 0", "score(2) = 0", "score(3) = NO_SUCH",
            "score(-2147483648) = NO_SUCH", "score(2147483647) = NO_SUCH", "drawRing(10, 10, 1) = 0",
            "putMarble(11, 10, 3, 0) = 0", "putMarble(10, 11, 2, 1) = 1", "putMarble(10, 10, 3, 2) = 2",
            "pass() = 1", "pass() = 2", "flick(2, 2, 1) = 1", "score(0) = -3", "score(1) = 0", "score(2) = 3",
            "flick(2, 4, 2) = 1", "score(0) = -3", "score(1) = -2", "score(2) = 5", "undo() = 5", "score(1) = 0",
            "score(2) = 3");
    }

    private static void promise13() throws Exception {
        Script.run("Promise 13: of several with the greatest score the lowest",
            "leader() = 0", "drawRing(10, 10, 1) = 0", "putMarble(11, 10, 1, 0) = 0", "putMarble(10, 10, 1, 1) = 1",
            "pass() = 1", "flick(1, 2, 1) = 1", "score(1) = 1", "leader() = 1",
            "putMarble(10, 12, 1, 0) = 2", "putMarble(10, 11, 1, 2) = 3", "pass() = 2", "flick(3, 4, 1) = 1",
            "score(0) = -2", "score(1) = 1", "score(2) = 1", "leader() = 1",
            "putMarble(10, 13, 1, 0) = 4", "move(3, 10, 12) = 1", "flick(3, 4, 1) = 1", "score(2) = 2",
            "leader() = 2", "undo() = 5", "leader() = 1");
        Script.run("Promise 13: no score at all is more than a negative one",
            "drawRing(10, 10, 1) = 0", "putMarble(11, 10, 1, 0) = 0", "putMarble(10, 10, 1, 2) = 1", "pass() = 1",
            "pass() = 2", "flick(1, 2, 1) = 1", "score(0) = -1", "score(1) = 0", "score(2) = 1", "leader() = 2",
            "putMarble(10, 12, 1, 2) = 2", "putMarble(10, 11, 1, 0) = 3", "pass() = 0", "flick(3, 4, 1) = 1",
            "score(0) = 0", "score(1) = 0", "score(2) = 0", "leader() = 0");
        Script.run("Promise 13: 1 and 2 alike ahead of a negative 0",
            "drawRing(10, 10, 1) = 0", "drawRing(20, 10, 1) = 1", "putMarble(11, 10, 1, 0) = 0",
            "putMarble(10, 10, 1, 1) = 1", "putMarble(21, 10, 1, 1) = 2", "putMarble(20, 10, 1, 2) = 3", "pass() = 1",
            "flick(1, 2, 1) = 1", "pass() = 2", "flick(3, 2, 1) = 1", "score(0) = -1", "score(1) = 0", "score(2) = 1",
            "leader() = 2", "move(3, 12, 11) = 0", "putMarble(12, 10, 1, 2) = 4", "pass() = 0", "pass() = 1",
            "move(1, 11, 10) = 1", "flick(1, 2, 1) = 1", "score(1) = 1", "score(2) = 0", "leader() = 1");
    }

    private static void promise14Ranges() throws Exception {
        Script.run("Promise 14: the marble is 0 to the last one",
            "ifFlicked(0, 0, 1, 0) = NO_SUCH", "putMarble(7, 7, 1, 0) = 0", "putMarble(7, 9, 1, 2) = 1",
            "ifFlicked(-1, 0, 1, 0) = NO_SUCH", "ifFlicked(2, 0, 1, 0) = NO_SUCH",
            "ifFlicked(-2147483648, 0, 1, 0) = NO_SUCH", "ifFlicked(2147483647, 0, 1, 0) = NO_SUCH",
            "ifFlicked(0, 2, 1, 4) = 807", "ifFlicked(1, 2, 1, 4) = 809");
        Script.run("Promise 14: direction is 0 to 7",
            "putMarble(7, 7, 1, 0) = 0", "ifFlicked(0, -1, 1, 4) = BAD_VALUE", "ifFlicked(0, 0, 1, 4) = 706",
            "ifFlicked(0, 7, 1, 4) = 606", "ifFlicked(0, 8, 1, 4) = BAD_VALUE",
            "ifFlicked(0, -2147483648, 1, 4) = BAD_VALUE", "ifFlicked(0, 2147483647, 1, 4) = BAD_VALUE");
        Script.run("Promise 14: strength is 1 to 40",
            "putMarble(0, 7, 1, 0) = 0", "ifFlicked(0, 2, 0, 4) = BAD_VALUE", "ifFlicked(0, 2, 1, 4) = 107",
            "ifFlicked(0, 2, 40, 4) = 2007", "ifFlicked(0, 2, 41, 4) = BAD_VALUE",
            "ifFlicked(0, 2, -2147483648, 4) = BAD_VALUE", "ifFlicked(0, 2, 2147483647, 4) = BAD_VALUE");
        Script.run("Promise 14: what is 0 to 4",
            "putMarble(0, 7, 1, 0) = 0", "ifFlicked(0, 2, 1, -1) = BAD_VALUE", "ifFlicked(0, 2, 1, 0) = 0",
            "ifFlicked(0, 2, 1, 4) = 107", "ifFlicked(0, 2, 1, 5) = BAD_VALUE",
            "ifFlicked(0, 2, 1, -2147483648) = BAD_VALUE", "ifFlicked(0, 2, 1, 2147483647) = BAD_VALUE");
        Script.run("Promise 14: NO_SUCH, BAD_VALUE, NOT_POSSIBLE, in this order",
            "drawRing(10, 10, 1) = 0", "putMarble(10, 10, 1, 1) = 0", "putMarble(9, 10, 1, 0) = 1",
            "flick(1, 2, 2) = 1", "ifFlicked(2, 8, 41, 5) = NO_SUCH", "ifFlicked(2, 0, 1, 5) = NO_SUCH",
            "ifFlicked(0, 8, 1, 0) = BAD_VALUE", "ifFlicked(0, 0, 0, 0) = BAD_VALUE",
            "ifFlicked(0, 0, 41, 0) = BAD_VALUE", "ifFlicked(0, 0, 1, 5) = BAD_VALUE",
            "ifFlicked(0, 0, 1, -1) = BAD_VALUE", "ifFlicked(0, 0, 1, 0) = NOT_POSSIBLE",
            "ifFlicked(0, 7, 40, 4) = NOT_POSSIBLE", "ifFlicked(1, 0, 1, 0) = 0");
    }

    private static void promise14Answers() throws Exception {
        Script.run("Promise 14: whoever is on the move, as if the owner of the marble were",
            "drawRing(10, 10, 1) = 0", "putMarble(10, 10, 3, 0) = 0", "putMarble(9, 10, 3, 2) = 1",
            "putMarble(11, 9, 3, 2) = 2", "ifFlicked(1, 2, 2, 0) = 1", "ifFlicked(1, 2, 2, 1) = 3", "pass() = 1",
            "ifFlicked(1, 2, 2, 0) = 1", "pass() = 2", "ifFlicked(1, 2, 2, 0) = 1", "ifFlicked(0, 6, 2, 0) = 1",
            "ifFlicked(2, 5, 1, 0) = 1", "ifFlicked(2, 5, 1, 4) = 911");
        Script.run("Promise 14: the last marble and its point, without a hit, with one, and if it would be won",
            "drawRing(10, 10, 1) = 0", "putMarble(10, 10, 2, 1) = 0", "putMarble(8, 10, 2, 2) = 1",
            "ifFlicked(1, 2, 2, 2) = 0", "ifFlicked(1, 2, 2, 3) = 1", "ifFlicked(1, 2, 2, 4) = 910",
            "ifFlicked(1, 2, 3, 0) = 0", "ifFlicked(1, 2, 3, 1) = 0", "ifFlicked(1, 2, 3, 2) = 1",
            "ifFlicked(1, 2, 3, 3) = 0", "ifFlicked(1, 2, 3, 4) = 1110", "ifFlicked(1, 2, 4, 0) = 1",
            "ifFlicked(1, 2, 4, 1) = 2", "ifFlicked(1, 2, 4, 3) = 0", "ifFlicked(1, 2, 4, 4) = 1210");
        Script.run("Promise 14: points at the edges of the playground",
            "putMarble(0, 1, 1, 0) = 0", "ifFlicked(0, 0, 1, 4) = 0", "ifFlicked(0, 4, 29, 4) = 30",
            "ifFlicked(0, 2, 30, 4) = 3001", "ifFlicked(0, 3, 29, 4) = 2930", "ifFlicked(0, 3, 30, 4) = 3029");
        Script.run("Promise 14: a forecast changes nothing, the same flick brings the same",
            "drawRing(4, 4, 1) = 0", "putMarble(5, 4, 1, 1) = 0", "putMarble(3, 4, 3, 2) = 1",
            "putMarble(6, 5, 3, 0) = 2", "ifFlicked(2, 7, 40, 0) = 2", "ifFlicked(2, 7, 40, 1) = 4",
            "ifFlicked(2, 7, 40, 2) = 2", "ifFlicked(2, 7, 40, 3) = 1", "flick(2, 7, 40) = 2", "score(0) = 4",
            "count(4) = 2", "count(3) = 1");
    }

    private static void promise15Refusals() throws Exception {
        Script.run("Promise 15: the marble is 0 to the last one",
            "bestFlick(0) = NO_SUCH", "drawRing(10, 10, 1) = 0", "putMarble(10, 10, 1, 1) = 0",
            "putMarble(9, 10, 1, 0) = 1", "bestFlick(-1) = NO_SUCH", "bestFlick(2) = NO_SUCH",
            "bestFlick(12) = NO_SUCH", "bestFlick(-2147483648) = NO_SUCH", "bestFlick(2147483647) = NO_SUCH",
            "bestFlick(0) = 601", "bestFlick(1) = 202");
        Script.run("Promise 15: NOT_POSSIBLE if it was won",
            "drawRing(10, 10, 1) = 0", "putMarble(10, 10, 1, 1) = 0", "putMarble(9, 10, 1, 0) = 1",
            "flick(1, 2, 2) = 1", "bestFlick(0) = NOT_POSSIBLE", "bestFlick(1) = NONE", "undo() = 3",
            "bestFlick(0) = 601");
        Script.run("Promise 15: NONE if nothing would be won: no other marble, no ring, own marbles, none in a ring",
            "putMarble(9, 10, 1, 0) = 0", "bestFlick(0) = NONE", "putMarble(10, 10, 1, 1) = 1", "bestFlick(0) = NONE",
            "drawRing(10, 10, 1) = 0", "bestFlick(0) = 202", "move(1, 11, 11) = 0", "bestFlick(0) = NONE",
            "putMarble(10, 10, 1, 0) = 2", "bestFlick(0) = NONE");
        Script.run("Promise 15: whoever is on the move",
            "drawRing(10, 10, 1) = 0", "putMarble(11, 10, 1, 1) = 0", "putMarble(10, 10, 1, 2) = 1",
            "bestFlick(1) = 201", "pass() = 1", "bestFlick(1) = 201", "pass() = 2", "bestFlick(1) = 201");
    }

    private static void promise15OuterFlicks() throws Exception {
        Script.run("Promise 15: strength 1, direction 0",
            "drawRing(10, 10, 1) = 0", "putMarble(10, 9, 1, 1) = 0", "putMarble(10, 10, 1, 0) = 1",
            "bestFlick(1) = 1", "ifFlicked(1, 0, 1, 1) = 1");
        Script.run("Promise 15: strength 1, direction 7",
            "drawRing(10, 10, 1) = 0", "putMarble(10, 10, 1, 1) = 0", "putMarble(11, 11, 1, 0) = 1",
            "bestFlick(1) = 701", "ifFlicked(1, 7, 1, 1) = 1");
        // The flicked marble comes over 9 points and the chalk; a third of the 30 that are left is just enough.
        Script.run("Promise 15: strength 40 is enough, and along 6 the wall turns the roll into the one along 2",
            "drawRing(10, 15, 9) = 0", "putMarble(10, 15, 3, 1) = 0", "putMarble(0, 15, 1, 0) = 1",
            "ifFlicked(1, 2, 39, 0) = 0", "ifFlicked(1, 2, 40, 0) = 1", "ifFlicked(1, 6, 40, 0) = 1",
            "bestFlick(1) = 240");
        Script.run("Promise 15: a strength of 41 would be needed",
            "drawRing(10, 15, 9) = 0", "putMarble(10, 15, 3, 1) = 0", "putMarble(0, 15, 1, 0) = 1",
            "drawRing(0, 15, 1) = 1", "ifFlicked(1, 2, 40, 0) = 0", "bestFlick(1) = NONE");
    }

    private static void promise15Choice() throws Exception {
        Script.run("Promise 15: of the same sum the least strength, whatever its direction",
            "drawRing(10, 10, 2) = 0", "putMarble(10, 10, 1, 0) = 0", "putMarble(12, 10, 1, 1) = 1",
            "bestFlick(0) = 202", "putMarble(9, 9, 1, 2) = 2", "bestFlick(0) = 701");
        Script.run("Promise 15: of the same sum and strength the lowest direction",
            "drawRing(10, 10, 2) = 0", "putMarble(10, 10, 1, 0) = 0", "putMarble(8, 10, 1, 1) = 1",
            "bestFlick(0) = 602", "putMarble(10, 12, 1, 1) = 2", "bestFlick(0) = 402", "putMarble(12, 10, 1, 1) = 3",
            "bestFlick(0) = 202", "putMarble(10, 8, 1, 2) = 4", "bestFlick(0) = 2");
        Script.run("Promise 15: the greatest sum, though it needs more strength",
            "drawRing(10, 10, 2) = 0", "putMarble(10, 10, 1, 0) = 0", "putMarble(9, 9, 1, 1) = 1",
            "bestFlick(0) = 701", "putMarble(12, 10, 2, 1) = 2", "bestFlick(0) = 203", "putMarble(8, 10, 3, 1) = 3",
            "bestFlick(0) = 604");
        Script.run("Promise 15: two small marbles are as good as one of size 2 and less than one of size 3",
            "drawRing(4, 4, 1) = 0", "putMarble(5, 4, 1, 1) = 0", "putMarble(3, 4, 1, 2) = 1",
            "putMarble(6, 5, 1, 0) = 2", "ifFlicked(2, 7, 3, 1) = 1", "ifFlicked(2, 7, 10, 1) = 2",
            "bestFlick(2) = 710", "drawRing(6, 6, 1) = 1", "putMarble(6, 6, 2, 1) = 3", "bestFlick(2) = 404",
            "move(3, 20, 20) = 0", "putMarble(6, 6, 3, 1) = 4", "bestFlick(2) = 406");
    }

    private static void promise16Refusals() throws Exception {
        Script.run("Promise 16: the marble is 0 to the last one",
            "wayOut(0) = NO_SUCH", "putMarble(7, 7, 1, 0) = 0", "putMarble(7, 9, 1, 1) = 1", "wayOut(-1) = NO_SUCH",
            "wayOut(2) = NO_SUCH", "wayOut(12) = NO_SUCH", "wayOut(-2147483648) = NO_SUCH",
            "wayOut(2147483647) = NO_SUCH", "wayOut(0) = 0", "wayOut(1) = 0");
        Script.run("Promise 16: NOT_POSSIBLE if it was won",
            "drawRing(10, 10, 1) = 0", "putMarble(10, 10, 1, 1) = 0", "putMarble(9, 10, 1, 0) = 1", "wayOut(0) = 1",
            "flick(1, 2, 2) = 1", "wayOut(0) = NOT_POSSIBLE", "wayOut(1) = 1", "undo() = 3", "wayOut(0) = 1");
    }

    private static void promise16Steps() throws Exception {
        Script.run("Promise 16: 0 if it is in no ring, 1 from the last points in it",
            "drawRing(10, 10, 5) = 0", "putMarble(14, 14, 1, 0) = 0", "wayOut(0) = 0", "move(0, 13, 14) = 1",
            "wayOut(0) = 1", "move(0, 16, 10) = 0", "wayOut(0) = 0", "move(0, 15, 10) = 1", "wayOut(0) = 1",
            "move(0, 10, 10) = 1", "wayOut(0) = 4", "move(0, 10, 12) = 1", "wayOut(0) = 3");
        Script.run("Promise 16: other marbles do not matter",
            "drawRing(10, 10, 1) = 0", "putMarble(10, 10, 1, 0) = 0", "putMarble(9, 9, 1, 0) = 1",
            "putMarble(11, 9, 1, 0) = 2", "putMarble(11, 11, 1, 0) = 3", "putMarble(9, 11, 1, 0) = 4",
            "putMarble(10, 9, 1, 0) = 5", "putMarble(11, 10, 1, 0) = 6", "putMarble(10, 11, 1, 0) = 7",
            "putMarble(9, 10, 1, 0) = 8", "wayOut(0) = 1", "wayOut(5) = 1", "wayOut(1) = 0");
        Script.run("Promise 16: a way that leads from one ring into another goes on",
            "putMarble(0, 0, 1, 0) = 0", "drawRing(0, 0, 2) = 0", "wayOut(0) = 2", "drawRing(3, 3, 2) = 1",
            "wayOut(0) = 3", "drawRing(3, 0, 1) = 2", "wayOut(0) = 3", "drawRing(0, 4, 2) = 3", "wayOut(0) = 5");
    }

    private static void promise16Walls() throws Exception {
        wall("0, 15", "30, 15", "15, 0, 15", "15, 30, 15");
        wall("30, 15", "0, 15", "15, 0, 15", "15, 30, 15");
        wall("15, 0", "15, 30", "0, 15, 15", "30, 15, 15");
        wall("15, 30", "15, 0", "0, 15, 15", "30, 15, 15");
        Script.run("Promise 16: the way out may be the corner behind 30 steps, and no longer",
            "drawRing(15, 0, 15) = 0", "drawRing(0, 15, 15) = 1", "drawRing(22, 22, 10) = 2",
            "putMarble(0, 0, 1, 0) = 0", "wayOut(0) = 30", "drawRing(30, 30, 1) = 3", "wayOut(0) = NONE",
            "undo() = 4", "wayOut(0) = 30");
    }

    /** From the midst of a ring of 14 just one point, at a wall, is in no ring; a radius of 15 holds it too. */
    private static void wall(String point, String opposite, String oneSide, String otherSide) throws Exception {
        Script.run("Promise 16: the point " + point + " at the wall is within the playground",
            "putMarble(15, 15, 1, 0) = 0", "drawRing(" + oneSide + ") = 0", "drawRing(" + otherSide + ") = 1",
            "drawRing(" + opposite + ", 1) = 2", "drawRing(15, 15, 14) = 3", "wayOut(0) = 15", "undo() = 4",
            "drawRing(15, 15, 15) = 3", "wayOut(0) = NONE");
    }
}
