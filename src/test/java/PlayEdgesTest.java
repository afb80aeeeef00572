/** Promises 6 and 7: each boundary that the document names, at the last value that is fine and at the first that is not. */
public final class PlayEdgesTest {
    public static void main(String[] args) throws Exception {
        promise6Ranges();
        promise6Refusals();
        promise6Directions();
        promise6Strength();
        promise6Walls();
        promise6Corners();
        promise6WallsCountWhateverFollows();
        promise6HitsRoundDown();
        promise6HitsPassOnAtMost40();
        promise6HitMarbles();
        promise6ChalkCosts();
        promise6ChalkLeavesAtLeast0();
        promise6WinsOutOfTheRings();
        promise6WinsFromTheRings();
        promise6WinsOfOthers();
        promise6RingsGrow();
        promise6RingsGrowOnce();
        promise6Turns();
        promise7();
        Script.finish();
    }

    private static void promise6Ranges() throws Exception {
        Script.run("Promise 6: the marble is 0 to the last one",
            "flick(0, 2, 1) = NO_SUCH", "putMarble(7, 7, 1, 0) = 0", "putMarble(7, 8, 1, 0) = 1",
            "flick(-1, 2, 1) = NO_SUCH", "flick(2, 2, 1) = NO_SUCH", "flick(12, 2, 1) = NO_SUCH",
            "flick(-2147483648, 2, 1) = NO_SUCH", "flick(2147483647, 2, 1) = NO_SUCH", "flick(0, 2, 1) = 0",
            "undo() = 2", "flick(1, 2, 1) = 0", "at(8, 8) = 1");
        Script.run("Promise 6: direction is 0 to 7",
            "putMarble(7, 7, 1, 0) = 0", "flick(0, -1, 1) = BAD_VALUE", "flick(0, 8, 1) = BAD_VALUE",
            "flick(0, -2147483648, 1) = BAD_VALUE", "flick(0, 2147483647, 1) = BAD_VALUE", "flick(0, 0, 1) = 0",
            "at(7, 6) = 0", "undo() = 1", "flick(0, 7, 1) = 0", "at(6, 6) = 0");
        Script.run("Promise 6: strength is 1 to 40",
            "putMarble(0, 7, 1, 0) = 0", "flick(0, 2, 0) = BAD_VALUE", "flick(0, 2, 41) = BAD_VALUE",
            "flick(0, 2, -1) = BAD_VALUE", "flick(0, 2, -2147483648) = BAD_VALUE",
            "flick(0, 2, 2147483647) = BAD_VALUE", "flick(0, 2, 1) = 0", "at(1, 7) = 0", "undo() = 1",
            "flick(0, 2, 40) = 0", "at(20, 7) = 0");
    }

    private static void promise6Refusals() throws Exception {
        Script.run("Promise 6: NOT_POSSIBLE if the player on the move does not own it",
            "putMarble(7, 7, 1, 0) = 0", "putMarble(7, 8, 1, 1) = 1", "putMarble(7, 9, 1, 2) = 2",
            "flick(1, 2, 1) = NOT_POSSIBLE", "flick(2, 2, 1) = NOT_POSSIBLE", "flick(0, 2, 1) = 0",
            "flick(0, 2, 1) = NOT_POSSIBLE", "flick(2, 2, 1) = NOT_POSSIBLE", "flick(1, 2, 1) = 0",
            "flick(0, 2, 1) = NOT_POSSIBLE", "flick(1, 2, 1) = NOT_POSSIBLE", "flick(2, 2, 1) = 0", "count(3) = 3");
        Script.run("Promise 6: NOT_POSSIBLE if the marble was won, also for its owner",
            "drawRing(10, 10, 1) = 0", "putMarble(10, 10, 1, 1) = 0", "putMarble(9, 10, 1, 0) = 1",
            "flick(1, 2, 2) = 1", "flick(0, 2, 2) = NOT_POSSIBLE", "pass() = 1", "flick(0, 2, 2) = NOT_POSSIBLE",
            "undo() = 4", "undo() = 3", "pass() = 1", "flick(0, 2, 2) = 0");
        Script.run("Promise 6: NO_SUCH, BAD_VALUE, NOT_POSSIBLE, in this order",
            "putMarble(7, 7, 1, 1) = 0", "flick(1, 8, 1) = NO_SUCH", "flick(-1, 0, 41) = NO_SUCH",
            "flick(1, -1, 0) = NO_SUCH", "flick(0, 8, 1) = BAD_VALUE", "flick(0, 0, 0) = BAD_VALUE",
            "flick(0, 0, 41) = BAD_VALUE", "flick(0, 7, 40) = NOT_POSSIBLE");
    }

    private static void promise6Directions() throws Exception {
        Script.run("Promise 6: what a step adds along the directions 0 to 7",
            "putMarble(15, 15, 1, 0) = 0", "ifFlicked(0, 0, 1, 4) = 1514", "ifFlicked(0, 1, 1, 4) = 1614",
            "ifFlicked(0, 2, 1, 4) = 1615", "ifFlicked(0, 3, 1, 4) = 1616", "ifFlicked(0, 4, 1, 4) = 1516",
            "ifFlicked(0, 5, 1, 4) = 1416", "ifFlicked(0, 6, 1, 4) = 1415", "ifFlicked(0, 7, 1, 4) = 1414");
    }

    private static void promise6Strength() throws Exception {
        Script.run("Promise 6: a move as long as the strength is at least 1",
            "putMarble(0, 7, 1, 0) = 0", "putMarble(5, 7, 1, 1) = 1",
            "ifFlicked(0, 2, 1, 4) = 107", "ifFlicked(0, 2, 4, 4) = 407", "ifFlicked(0, 2, 4, 2) = 0",
            "ifFlicked(0, 2, 4, 3) = 0", "ifFlicked(0, 2, 5, 2) = 1", "ifFlicked(0, 2, 5, 3) = 1",
            "ifFlicked(0, 2, 5, 4) = 607", "flick(0, 2, 4) = 0", "count(4) = 0", "at(4, 7) = 0", "undo() = 2",
            "flick(0, 2, 5) = 0", "count(4) = 1", "at(4, 7) = 0", "at(6, 7) = 1");
    }

    private static void promise6Walls() throws Exception {
        wall("Promise 6: below x = 0", 1, 7, 6, 0, 7, 1, 7);
        wall("Promise 6: above x = 30", 29, 7, 2, 30, 7, 29, 7);
        wall("Promise 6: below y = 0", 7, 1, 0, 7, 0, 7, 1);
        wall("Promise 6: above y = 30", 7, 29, 4, 7, 30, 7, 29);
        wall("Promise 6: below x = 0, y goes on", 1, 7, 7, 0, 6, 1, 5);
        wall("Promise 6: above x = 30, y goes on", 29, 7, 3, 30, 8, 29, 9);
        wall("Promise 6: below y = 0, x goes on", 7, 1, 1, 8, 0, 9, 1);
        wall("Promise 6: above y = 30, x goes on", 7, 29, 5, 6, 30, 5, 29);
        Script.run("Promise 6: what the step adds is turned from now on, until the next wall",
            "putMarble(0, 7, 1, 0) = 0", "flick(0, 6, 30) = 0", "at(30, 7) = 0", "count(7) = 1", "undo() = 1",
            "flick(0, 6, 31) = 0", "at(29, 7) = 0", "count(7) = 2", "undo() = 1", "flick(0, 6, 40) = 0",
            "at(20, 7) = 0", "count(7) = 2");
    }

    /** From x, y the strength 1 leads to the wall without a turn, and 2 to the point behind the turn. */
    private static void wall(String title, int x, int y, int direction, int wallX, int wallY, int behindX, int behindY)
        throws Exception {
        Script.run(title, "putMarble(" + x + ", " + y + ", 1, 0) = 0", "flick(0, " + direction + ", 1) = 0",
            "at(" + wallX + ", " + wallY + ") = 0", "count(7) = 0", "undo() = 1", "flick(0, " + direction + ", 2) = 0",
            "at(" + behindX + ", " + behindY + ") = 0", "count(7) = 1");
    }

    private static void promise6Corners() throws Exception {
        corner(0, 0, 7, 1, 1, 2);
        corner(30, 0, 1, 29, 1, 2);
        corner(30, 30, 3, 29, 29, 2);
        corner(0, 30, 5, 1, 29, 2);
        corner(0, 0, 0, 0, 1, 1);
        corner(0, 0, 1, 1, 1, 1);
        corner(0, 0, 5, 1, 1, 1);
        corner(30, 30, 2, 29, 30, 1);
        corner(30, 30, 5, 29, 29, 1);
        corner(0, 0, 3, 1, 1, 0);
    }

    private static void corner(int x, int y, int direction, int restX, int restY, int walls) throws Exception {
        Script.run("Promise 6: x and y by themselves, in the corner " + x + ", " + y + " along " + direction,
            "putMarble(" + x + ", " + y + ", 1, 0) = 0", "flick(0, " + direction + ", 1) = 0",
            "at(" + restX + ", " + restY + ") = 0", "count(7) = " + walls);
    }

    private static void promise6WallsCountWhateverFollows() throws Exception {
        Script.run("Promise 6: a turn counts though a marble is hit behind it, which rolls along the turned direction",
            "putMarble(0, 7, 1, 0) = 0", "putMarble(1, 7, 1, 1) = 1", "flick(0, 6, 1) = 0", "count(7) = 1",
            "count(4) = 1", "at(0, 7) = 0", "at(2, 7) = 1");
        Script.run("Promise 6: a turn counts though the hit marble gets no strength",
            "putMarble(0, 7, 1, 0) = 0", "putMarble(1, 7, 2, 1) = 1", "flick(0, 6, 1) = 0", "count(7) = 1",
            "count(4) = 1", "at(0, 7) = 0", "at(1, 7) = 1");
        Script.run("Promise 6: a hit marble that lies at the wall turns at its own first move",
            "putMarble(1, 7, 1, 0) = 0", "putMarble(0, 7, 1, 1) = 1", "flick(0, 6, 3) = 0", "count(7) = 1",
            "count(4) = 2", "at(0, 7) = 1", "at(4, 7) = 0");
        Script.run("Promise 6: a hit marble at the wall without strength does not turn",
            "putMarble(1, 7, 1, 0) = 0", "putMarble(0, 7, 2, 1) = 1", "flick(0, 6, 1) = 0", "count(7) = 0",
            "count(4) = 1", "at(0, 7) = 1", "at(1, 7) = 0");
    }

    private static void promise6HitsRoundDown() throws Exception {
        passedOn(1, 2, 1, 0);
        passedOn(1, 2, 2, 1);
        passedOn(1, 2, 3, 1);
        passedOn(1, 2, 4, 2);
        passedOn(1, 3, 2, 0);
        passedOn(1, 3, 3, 1);
        passedOn(1, 3, 5, 1);
        passedOn(1, 3, 6, 2);
        passedOn(1, 3, 40, 13);
        passedOn(2, 3, 1, 0);
        passedOn(2, 3, 2, 1);
        passedOn(2, 3, 4, 2);
        passedOn(2, 3, 5, 3);
        passedOn(3, 2, 1, 1);
        passedOn(3, 2, 2, 3);
        passedOn(3, 2, 3, 4);
        passedOn(1, 1, 1, 1);
    }

    private static void promise6HitsPassOnAtMost40() throws Exception {
        passedOn(1, 1, 39, 39);
        passedOn(1, 1, 40, 40);
        passedOn(3, 3, 40, 40);
        passedOn(3, 1, 13, 39);
        passedOn(3, 1, 14, 40);
        passedOn(3, 1, 40, 40);
        passedOn(2, 1, 19, 38);
        passedOn(2, 1, 20, 40);
        passedOn(2, 1, 21, 40);
        passedOn(3, 2, 26, 39);
        passedOn(3, 2, 27, 40);
        passedOn(3, 2, 28, 40);
    }

    /** The flicked marble hits the other one at once, which then goes as many steps as the strength that it got. */
    private static void passedOn(int size, int hitSize, int strength, int steps) throws Exception {
        int restX = 1 + steps <= 30 ? 1 + steps : 60 - 1 - steps;
        Script.run("Promise 6: size " + size + " hits size " + hitSize + " with strength " + strength,
            "putMarble(0, 7, " + size + ", 0) = 0", "putMarble(1, 7, " + hitSize + ", 1) = 1",
            "ifFlicked(0, 2, " + strength + ", 4) = " + (100 * restX + 7), "ifFlicked(0, 2, " + strength + ", 3) = 1",
            "flick(0, 2, " + strength + ") = 0", "at(0, 7) = 0", "at(" + restX + ", 7) = 1", "count(4) = 1");
    }

    private static void promise6HitMarbles() throws Exception {
        Script.run("Promise 6: the rolling marble rests where it is, the hit one rolls on, also diagonally",
            "putMarble(3, 9, 1, 0) = 0", "putMarble(6, 6, 1, 1) = 1", "flick(0, 1, 5) = 0", "at(5, 7) = 0",
            "at(9, 3) = 1", "count(4) = 1", "count(7) = 0");
        Script.run("Promise 6: the cap holds at each hit, not for the whole flick",
            "putMarble(0, 7, 3, 0) = 0", "putMarble(1, 7, 1, 0) = 1", "putMarble(2, 7, 3, 0) = 2",
            "ifFlicked(0, 2, 40, 2) = 2", "ifFlicked(0, 2, 40, 4) = 1507", "ifFlicked(0, 2, 13, 4) = 1507",
            "ifFlicked(0, 2, 12, 4) = 1407");
        Script.run("Promise 6: the flicked marble may be hit itself, and each hit counts",
            "putMarble(1, 7, 1, 0) = 0", "putMarble(0, 7, 1, 0) = 1", "ifFlicked(0, 6, 1, 2) = 2",
            "ifFlicked(0, 6, 1, 3) = 0", "ifFlicked(0, 6, 1, 4) = 207", "flick(0, 6, 40) = 0", "count(4) = 2",
            "at(19, 7) = 0", "count(7) = 2");
    }

    private static void promise6ChalkCosts() throws Exception {
        Script.run("Promise 6: 1 for the step and 1 for the ring that has just one of the two points in it",
            "putMarble(7, 10, 1, 0) = 0", "drawRing(10, 10, 2) = 0", "ifFlicked(0, 2, 1, 4) = 810",
            "ifFlicked(0, 2, 2, 4) = 810", "ifFlicked(0, 2, 3, 4) = 910", "ifFlicked(0, 2, 6, 4) = 1210",
            "ifFlicked(0, 2, 7, 4) = 1310", "ifFlicked(0, 2, 8, 4) = 1310", "ifFlicked(0, 2, 9, 4) = 1410");
        Script.run("Promise 6: no chalk is paid for a ring that has none of the two points in it",
            "putMarble(8, 9, 1, 0) = 0", "drawRing(10, 10, 1) = 0", "ifFlicked(0, 1, 2, 4) = 1007",
            "ifFlicked(0, 2, 2, 4) = 1009", "ifFlicked(0, 2, 3, 4) = 1009", "ifFlicked(0, 2, 5, 4) = 1109",
            "ifFlicked(0, 2, 6, 4) = 1209");
        Script.run("Promise 6: a step out of one ring into another costs both",
            "putMarble(9, 10, 1, 0) = 0", "drawRing(8, 10, 1) = 0", "drawRing(11, 10, 1) = 1",
            "ifFlicked(0, 2, 1, 4) = 1010", "ifFlicked(0, 2, 3, 4) = 1010", "ifFlicked(0, 2, 4, 4) = 1110");
        Script.run("Promise 6: chalk that is crossed ahead of a hit is taken ahead of it, the hit costs none",
            "putMarble(7, 10, 1, 0) = 0", "drawRing(10, 10, 1) = 0", "putMarble(10, 10, 1, 0) = 1",
            "ifFlicked(0, 2, 3, 2) = 0", "ifFlicked(0, 2, 4, 2) = 1", "ifFlicked(0, 2, 4, 4) = 1110",
            "ifFlicked(0, 2, 5, 4) = 1210", "move(0, 9, 10) = 1", "ifFlicked(0, 2, 1, 4) = 1110");
    }

    private static void promise6ChalkLeavesAtLeast0() throws Exception {
        Script.run("Promise 6: four rings at once leave at least 0",
            "putMarble(7, 10, 1, 0) = 0", "drawRing(10, 10, 2) = 0", "drawRing(10, 10, 2) = 1",
            "drawRing(10, 10, 2) = 2", "drawRing(10, 10, 2) = 3", "ifFlicked(0, 2, 1, 4) = 810",
            "ifFlicked(0, 2, 4, 4) = 810", "ifFlicked(0, 2, 5, 4) = 810", "ifFlicked(0, 2, 6, 4) = 910",
            "putMarble(9, 10, 1, 0) = 1", "ifFlicked(0, 2, 1, 2) = 0", "ifFlicked(0, 2, 4, 2) = 0",
            "ifFlicked(0, 2, 5, 2) = 0", "ifFlicked(0, 2, 6, 2) = 1", "flick(0, 2, 1) = 0", "at(8, 10) = 0",
            "count(2) = 1");
    }

    private static void promise6WinsOutOfTheRings() throws Exception {
        Script.run("Promise 6: won if it is in no ring now",
            "drawRing(10, 10, 1) = 0", "putMarble(10, 10, 2, 1) = 0", "putMarble(9, 10, 2, 0) = 1",
            "flick(1, 2, 1) = 0", "marble(0, 4) = NONE", "marble(0, 0) = 11", "marble(0, 5) = 1", "count(5) = 0",
            "undo() = 3", "flick(1, 2, 2) = 1", "marble(0, 4) = 0", "marble(0, 0) = NONE", "count(5) = 1");
        Script.run("Promise 6: not won if it comes back into its ring",
            "drawRing(3, 7, 2) = 0", "putMarble(2, 7, 1, 1) = 0", "putMarble(3, 7, 1, 0) = 1", "flick(1, 6, 1) = 0",
            "at(1, 7) = 0", "undo() = 3", "ifFlicked(1, 6, 2, 0) = 1", "ifFlicked(1, 6, 2, 4) = 7",
            "flick(1, 6, 3) = 1", "count(7) = 0", "undo() = 3", "flick(1, 6, 4) = 0", "at(1, 7) = 0", "count(7) = 1",
            "marble(0, 5) = 1", "count(6) = 0");
        Script.run("Promise 6: not won if it comes into another ring, and only its own ring grows",
            "drawRing(10, 10, 1) = 0", "drawRing(14, 10, 1) = 1", "putMarble(10, 10, 1, 1) = 0",
            "putMarble(9, 10, 1, 0) = 1", "ifFlicked(1, 2, 3, 0) = 1", "ifFlicked(1, 2, 3, 4) = 1210",
            "ifFlicked(1, 2, 4, 0) = 0", "ifFlicked(1, 2, 4, 4) = 1310", "ifFlicked(1, 2, 7, 0) = 0",
            "flick(1, 2, 7) = 0", "marble(0, 5) = 2", "undo() = 4", "flick(1, 2, 8) = 1", "ring(0, 2) = 2",
            "ring(1, 2) = 1", "count(6) = 1");
        Script.run("Promise 6: a hit marble that gets no strength stays in its ring",
            "drawRing(10, 10, 1) = 0", "putMarble(11, 10, 3, 1) = 0", "putMarble(10, 10, 1, 0) = 1",
            "flick(1, 2, 2) = 0", "count(4) = 1", "at(11, 10) = 0", "undo() = 3", "flick(1, 2, 3) = 1");
    }

    private static void promise6WinsFromTheRings() throws Exception {
        Script.run("Promise 6: won if it was in a ring ahead of the flick, up to its last point",
            "drawRing(10, 10, 5) = 0", "putMarble(13, 14, 1, 1) = 0", "putMarble(12, 13, 1, 0) = 1",
            "flick(1, 3, 1) = 1", "ring(0, 2) = 6");
        Script.run("Promise 6: not won if it was in no ring ahead of the flick, from the first point on",
            "drawRing(10, 10, 5) = 0", "putMarble(14, 14, 1, 1) = 0", "putMarble(13, 13, 1, 0) = 1",
            "flick(1, 3, 1) = 0", "ring(0, 2) = 5", "at(15, 15) = 0", "count(2) = 1");
        Script.run("Promise 6: not won if it comes into a ring and out of it again by the flick alone",
            "drawRing(12, 10, 1) = 0", "putMarble(10, 10, 1, 1) = 0", "putMarble(9, 10, 1, 0) = 1",
            "ifFlicked(1, 2, 4, 4) = 1310", "flick(1, 2, 5) = 0", "at(14, 10) = 0", "count(5) = 0");
        Script.run("Promise 6: not won if it is not hit, though it lies in a ring beside the roll",
            "drawRing(10, 10, 2) = 0", "putMarble(10, 11, 1, 1) = 0", "putMarble(5, 10, 1, 0) = 1",
            "flick(1, 2, 20) = 0", "at(10, 11) = 0", "marble(0, 4) = NONE");
    }

    private static void promise6WinsOfOthers() throws Exception {
        Script.run("Promise 6: a marble of the player is not won by the player",
            "drawRing(10, 10, 1) = 0", "putMarble(10, 10, 1, 0) = 0", "putMarble(9, 10, 1, 0) = 1",
            "flick(1, 2, 2) = 0", "at(12, 10) = 0", "count(2) = 1", "ring(0, 2) = 1");
        Script.run("Promise 6: marbles of both others are won",
            "drawRing(10, 10, 1) = 0", "putMarble(10, 10, 1, 1) = 0", "putMarble(9, 10, 1, 0) = 1",
            "putMarble(10, 11, 1, 2) = 2", "flick(1, 2, 2) = 1", "move(1, 10, 10) = 1", "flick(1, 4, 2) = 1",
            "marble(0, 4) = 0", "marble(2, 4) = 0", "score(0) = 2");
        Script.run("Promise 6: the flicked marble is not won, also if it is hit and leaves its ring",
            "drawRing(1, 7, 1) = 0", "putMarble(1, 7, 1, 0) = 0", "putMarble(0, 7, 1, 1) = 1",
            "flick(0, 6, 2) = 0", "count(4) = 2", "at(3, 7) = 0", "at(0, 7) = 1", "count(5) = 0");
        Script.run("Promise 6: two marbles are won, from strength 10 on",
            "drawRing(4, 4, 1) = 0", "putMarble(5, 4, 1, 1) = 0", "putMarble(3, 4, 1, 2) = 1",
            "putMarble(6, 5, 1, 0) = 2", "ifFlicked(2, 7, 9, 2) = 2", "flick(2, 7, 9) = 1", "marble(0, 4) = 0",
            "marble(1, 4) = NONE", "at(4, 5) = 1", "undo() = 4", "flick(2, 7, 10) = 2", "marble(0, 4) = 0",
            "marble(1, 4) = 0", "count(5) = 2", "count(7) = 2");
    }

    private static void promise6RingsGrow() throws Exception {
        Script.run("Promise 6: a ring grows behind the wins, so a marble just behind the old chalk is won",
            "drawRing(10, 10, 1) = 0", "putMarble(11, 10, 1, 1) = 0", "putMarble(10, 10, 1, 0) = 1",
            "ifFlicked(1, 2, 1, 4) = 1210", "flick(1, 2, 1) = 1", "ring(0, 2) = 2", "ring(0, 4) = 13");
        Script.run("Promise 6: a radius of 14 becomes 15 and counts, a radius of 15 stays and does not count",
            "drawRing(0, 15, 14) = 0", "putMarble(14, 15, 1, 1) = 0", "putMarble(13, 15, 1, 0) = 1",
            "flick(1, 2, 1) = 1", "ring(0, 2) = 15", "count(6) = 1", "count(2) = 0",
            "putMarble(15, 15, 1, 2) = 2", "putMarble(14, 15, 1, 0) = 3", "flick(3, 2, 1) = 1", "ring(0, 2) = 15",
            "count(6) = 1", "count(5) = 2", "count(2) = 0", "ring(0, 4) = 370", "undo() = 5", "undo() = 4",
            "undo() = 3", "undo() = 2", "count(6) = 0", "ring(0, 2) = 14");
        Script.run("Promise 6: each ring in which the won marble was grows, the one of 15 and the one beside stay",
            "drawRing(10, 10, 1) = 0", "drawRing(9, 10, 2) = 1", "drawRing(0, 10, 11) = 2", "drawRing(10, 9, 1) = 3",
            "putMarble(11, 10, 1, 1) = 0", "putMarble(10, 10, 1, 0) = 1", "marble(0, 5) = 7", "flick(1, 2, 1) = 1",
            "ring(0, 2) = 2", "ring(1, 2) = 3", "ring(2, 2) = 12", "ring(3, 2) = 1", "count(6) = 3");
        Script.run("Promise 6: all four rings grow",
            "drawRing(10, 10, 1) = 0", "drawRing(11, 8, 2) = 1", "drawRing(8, 10, 3) = 2", "drawRing(0, 10, 11) = 3",
            "putMarble(11, 10, 1, 1) = 0", "putMarble(10, 10, 1, 0) = 1", "flick(1, 2, 1) = 1",
            "ring(0, 2) = 2", "ring(1, 2) = 3", "ring(2, 2) = 4", "ring(3, 2) = 12", "count(6) = 4");
        Script.run("Promise 6: all four rings grow but the one of 15",
            "drawRing(10, 10, 1) = 0", "drawRing(11, 8, 2) = 1", "drawRing(8, 10, 3) = 2", "drawRing(0, 0, 15) = 3",
            "putMarble(11, 10, 1, 1) = 0", "putMarble(10, 10, 1, 0) = 1", "marble(0, 5) = 15", "flick(1, 2, 1) = 1",
            "ring(0, 2) = 2", "ring(1, 2) = 3", "ring(2, 2) = 4", "ring(3, 2) = 15", "count(6) = 3");
    }

    private static void promise6RingsGrowOnce() throws Exception {
        Script.run("Promise 6: a ring grows by 1, also for several marbles",
            "drawRing(4, 4, 1) = 0", "putMarble(5, 4, 1, 1) = 0", "putMarble(3, 4, 1, 2) = 1",
            "putMarble(6, 5, 1, 0) = 2", "flick(2, 7, 10) = 2", "ring(0, 2) = 2", "count(6) = 1");
        Script.run("Promise 6: two rings grow if a marble was won from each, and one if from one",
            "drawRing(5, 4, 1) = 0", "drawRing(3, 4, 1) = 1", "putMarble(5, 4, 1, 1) = 0", "putMarble(3, 4, 1, 2) = 1",
            "putMarble(6, 5, 1, 0) = 2", "flick(2, 7, 8) = 1", "ring(0, 2) = 2", "ring(1, 2) = 1", "count(6) = 1",
            "undo() = 5", "flick(2, 7, 9) = 2", "ring(0, 2) = 2", "ring(1, 2) = 2", "count(6) = 2");
        Script.run("Promise 6: a ring of 14 becomes 15, also for several marbles",
            "drawRing(15, 15, 14) = 0", "putMarble(1, 15, 1, 1) = 0", "putMarble(2, 12, 1, 2) = 1",
            "putMarble(2, 16, 1, 0) = 2", "marble(0, 5) = 1", "marble(1, 5) = 1", "ifFlicked(2, 7, 13, 0) = 1",
            "ifFlicked(2, 7, 13, 4) = 1202", "ifFlicked(2, 7, 14, 4) = 1301", "flick(2, 7, 14) = 2",
            "ring(0, 2) = 15", "count(6) = 1", "count(5) = 2");
    }

    private static void promise6Turns() throws Exception {
        Script.run("Promise 6: at first player 0, then the next player, 0 behind 2",
            "putMarble(1, 1, 1, 0) = 0", "putMarble(1, 5, 1, 1) = 1", "putMarble(1, 9, 1, 2) = 2", "count(2) = 0",
            "flick(0, 2, 1) = 0", "count(2) = 1", "flick(1, 2, 1) = 0", "count(2) = 2", "flick(2, 2, 1) = 0",
            "count(2) = 0", "count(3) = 3", "undo() = 5", "count(2) = 2", "undo() = 4", "count(2) = 1");
        Script.run("Promise 6: each player stays on the move if a marble was won",
            "drawRing(10, 10, 1) = 0", "putMarble(11, 10, 1, 0) = 0", "putMarble(10, 11, 1, 1) = 1",
            "putMarble(10, 10, 1, 2) = 2", "pass() = 1", "pass() = 2", "flick(2, 2, 1) = 1", "count(2) = 2",
            "flick(2, 4, 2) = 1", "count(2) = 2", "ring(0, 2) = 3", "flick(2, 4, 1) = 0", "count(2) = 0",
            "score(2) = 2", "score(0) = -1", "score(1) = -1");
    }

    private static void promise7() throws Exception {
        Script.run("Promise 7: the next player is on the move, 0 behind 2, and this is no flick",
            "pass() = 1", "count(2) = 1", "pass() = 2", "count(2) = 2", "pass() = 0", "count(2) = 0", "count(3) = 0",
            "undo() = 2", "count(2) = 2", "undo() = 1", "count(2) = 1", "undo() = 0", "count(2) = 0",
            "undo() = NOT_POSSIBLE");
    }
}
