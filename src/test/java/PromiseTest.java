/** For each promise of the document runs of calls with the answers that are due, worked out by hand. */
public final class PromiseTest {
    public static void main(String[] args) throws Exception {
        constants();
        newObject();
        putMarble();
        drawRing();
        move();
        clear();
        flickRolls();
        flickWalls();
        flickHits();
        flickChalk();
        flickWins();
        flickErrors();
        pass();
        count();
        marble();
        ring();
        at();
        scoreAndLeader();
        ifFlicked();
        bestFlick();
        wayOut();
        type();
        syntaxError();
        readItems();
        undo();
        digest();
        Script.finish();
    }

    private static void constants() {
        Script.check("NO_SUCH", ChalkRings.NO_SUCH, -1001);
        Script.check("BAD_VALUE", ChalkRings.BAD_VALUE, -1002);
        Script.check("NOT_POSSIBLE", ChalkRings.NOT_POSSIBLE, -1003);
        Script.check("LIMIT", ChalkRings.LIMIT, -1004);
        Script.check("BAD_TEXT", ChalkRings.BAD_TEXT, -1005);
        Script.check("NONE", ChalkRings.NONE, -1006);
    }

    private static void newObject() throws Exception {
        Script.run("1 new",
            "count(0) = 0", "count(1) = 0", "count(2) = 0", "count(3) = 0", "count(4) = 0", "count(5) = 0",
            "count(6) = 0", "count(7) = 0", "marble(0, 2) = NO_SUCH", "ring(0, 2) = NO_SUCH", "at(0, 0) = NONE",
            "score(0) = 0", "score(1) = 0", "score(2) = 0", "leader() = 0", "clearText() = 0",
            "undo() = NOT_POSSIBLE");
    }

    private static void putMarble() throws Exception {
        Script.run("2 putMarble",
            "putMarble(0, 30, 1, 0) = 0", "putMarble(30, 0, 3, 2) = 1",
            "putMarble(-1, 5, 1, 0) = NO_SUCH", "putMarble(31, 5, 1, 0) = NO_SUCH",
            "putMarble(5, -1, 1, 0) = NO_SUCH", "putMarble(5, 31, 1, 0) = NO_SUCH",
            "putMarble(5, 5, 1, -1) = NO_SUCH", "putMarble(5, 5, 1, 3) = NO_SUCH",
            "putMarble(5, 5, 0, 0) = BAD_VALUE", "putMarble(5, 5, 4, 0) = BAD_VALUE",
            "putMarble(31, 5, 0, 0) = NO_SUCH", "putMarble(5, 5, 0, 3) = NO_SUCH",
            "putMarble(0, 30, 4, 0) = BAD_VALUE", "putMarble(0, 30, 1, 1) = NOT_POSSIBLE",
            "putMarble(-2147483648, 2147483647, 1, 0) = NO_SUCH",
            "putMarble(5, 5, 2147483647, 0) = BAD_VALUE", "putMarble(5, 5, 1, -2147483648) = NO_SUCH",
            "count(0) = 2", "marble(1, 0) = 30", "marble(1, 1) = 0", "marble(1, 2) = 3", "marble(1, 3) = 2",
            "at(0, 30) = 0", "at(30, 0) = 1", "at(5, 5) = NONE", "undo() = 1", "undo() = 0");
        Script.run("2 putMarble to the limit",
            "putMarble(0, 0, 1, 0) = 0", "putMarble(1, 0, 1, 1) = 1", "putMarble(2, 0, 1, 2) = 2",
            "putMarble(3, 0, 2, 0) = 3", "putMarble(4, 0, 2, 1) = 4", "putMarble(5, 0, 2, 2) = 5",
            "putMarble(6, 0, 3, 0) = 6", "putMarble(7, 0, 3, 1) = 7", "putMarble(8, 0, 3, 2) = 8",
            "putMarble(9, 0, 1, 0) = 9", "putMarble(10, 0, 1, 1) = 10", "putMarble(11, 0, 1, 2) = 11",
            "putMarble(12, 0, 1, 0) = LIMIT", "putMarble(11, 0, 1, 0) = NOT_POSSIBLE",
            "putMarble(12, 0, 4, 0) = BAD_VALUE", "count(0) = 12", "at(12, 0) = NONE");
        Script.run("2 putMarble, the won marble counts for the limit",
            "drawRing(10, 10, 1) = 0", "putMarble(10, 10, 1, 1) = 0", "putMarble(9, 10, 1, 0) = 1",
            "putMarble(0, 0, 1, 0) = 2", "putMarble(1, 0, 1, 0) = 3", "putMarble(2, 0, 1, 0) = 4",
            "putMarble(3, 0, 1, 0) = 5", "putMarble(4, 0, 1, 0) = 6", "putMarble(5, 0, 1, 0) = 7",
            "putMarble(6, 0, 1, 0) = 8", "putMarble(7, 0, 1, 0) = 9", "putMarble(8, 0, 1, 0) = 10",
            "flick(1, 2, 9) = 1", "putMarble(10, 10, 1, 0) = 11", "putMarble(15, 10, 1, 0) = LIMIT");
    }

    private static void drawRing() throws Exception {
        Script.run("3 drawRing",
            "drawRing(-1, 0, 1) = NO_SUCH", "drawRing(0, -1, 1) = NO_SUCH", "drawRing(31, 0, 1) = NO_SUCH",
            "drawRing(0, 31, 1) = NO_SUCH", "drawRing(31, 0, 0) = NO_SUCH", "drawRing(0, 0, 0) = BAD_VALUE",
            "drawRing(0, 0, 16) = BAD_VALUE", "drawRing(0, 0, -2147483648) = BAD_VALUE",
            "drawRing(2147483647, 0, 1) = NO_SUCH", "undo() = NOT_POSSIBLE",
            "drawRing(0, 0, 1) = 0", "drawRing(30, 30, 15) = 1", "drawRing(0, 0, 1) = 2", "drawRing(7, 8, 9) = 3",
            "drawRing(7, 8, 9) = LIMIT", "drawRing(7, 8, 16) = BAD_VALUE", "drawRing(31, 8, 1) = NO_SUCH",
            "count(1) = 4", "ring(3, 0) = 7", "ring(3, 1) = 8", "ring(3, 2) = 9", "undo() = 3", "count(1) = 3",
            "ring(3, 0) = NO_SUCH");
    }

    private static void move() throws Exception {
        Script.run("4 move",
            "putMarble(5, 5, 1, 2) = 0", "putMarble(6, 5, 1, 0) = 1", "drawRing(10, 10, 3) = 0",
            "drawRing(10, 12, 2) = 1",
            "move(0, 10, 13) = 2", "at(5, 5) = NONE", "at(10, 13) = 0", "marble(0, 0) = 10", "marble(0, 1) = 13",
            "move(0, 10, 14) = 1", "move(0, 10, 15) = 0", "move(0, 7, 10) = 1",
            "count(2) = 0", "count(3) = 0", "move(0, 7, 10) = NOT_POSSIBLE", "move(0, 6, 5) = NOT_POSSIBLE",
            "move(2, 0, 0) = NO_SUCH", "move(-1, 0, 0) = NO_SUCH", "move(0, 31, 0) = NO_SUCH",
            "move(0, 0, 31) = NO_SUCH", "move(0, -1, 0) = NO_SUCH", "move(0, 0, -1) = NO_SUCH",
            "undo() = 5", "at(10, 15) = 0", "undo() = 4", "at(10, 14) = 0");
        Script.run("4 move of a won marble",
            "drawRing(10, 10, 1) = 0", "putMarble(10, 10, 1, 1) = 0", "putMarble(9, 10, 1, 0) = 1",
            "flick(1, 2, 9) = 1", "move(0, 20, 20) = NOT_POSSIBLE", "move(0, 31, 20) = NO_SUCH",
            "move(1, 10, 10) = 1", "undo() = 4", "undo() = 3", "marble(0, 0) = 10");
    }

    private static void clear() throws Exception {
        Script.run("5 clear",
            "clear() = 0", "undo() = 0",
            "drawRing(10, 10, 1) = 0", "putMarble(10, 10, 1, 1) = 0", "putMarble(9, 10, 1, 0) = 1",
            "putMarble(0, 5, 1, 0) = 2", "flick(1, 2, 9) = 1", "flick(2, 6, 1) = 0", "pass() = 2",
            "text(m1)", "clear() = 3",
            "count(0) = 0", "count(1) = 0", "count(2) = 0", "count(3) = 0", "count(4) = 0", "count(5) = 0",
            "count(6) = 0", "count(7) = 0", "score(0) = 0", "score(1) = 0", "marble(0, 2) = NO_SUCH",
            "ring(0, 2) = NO_SUCH", "at(1, 5) = NONE", "clearText() = 2",
            "putMarble(9, 9, 2, 2) = 0", "marble(0, 4) = NONE", "marble(0, 5) = 0", "drawRing(9, 9, 4) = 0",
            "ring(0, 3) = 1", "undo() = 5", "undo() = 4", "undo() = 3",
            "count(0) = 3", "count(1) = 1", "count(2) = 2", "count(3) = 2", "count(4) = 1", "count(5) = 1",
            "count(6) = 1", "count(7) = 1", "score(0) = 1", "score(1) = -1", "at(1, 5) = 2");
    }

    private static void flickRolls() throws Exception {
        Script.run("6 flick, the eight directions",
            "putMarble(15, 15, 1, 0) = 0",
            "ifFlicked(0, 0, 4, 4) = 1511", "ifFlicked(0, 1, 4, 4) = 1911", "ifFlicked(0, 2, 4, 4) = 1915",
            "ifFlicked(0, 3, 4, 4) = 1919", "ifFlicked(0, 4, 4, 4) = 1519", "ifFlicked(0, 5, 4, 4) = 1119",
            "ifFlicked(0, 6, 4, 4) = 1115", "ifFlicked(0, 7, 4, 4) = 1111",
            "flick(0, 1, 4) = 0", "at(19, 11) = 0", "at(15, 15) = NONE", "count(2) = 1", "count(3) = 1",
            "count(4) = 0", "count(7) = 0");
        Script.run("6 flick, players take turns",
            "putMarble(1, 1, 1, 0) = 0", "putMarble(1, 5, 1, 1) = 1", "putMarble(1, 9, 1, 2) = 2",
            "flick(0, 2, 1) = 0", "flick(0, 2, 1) = NOT_POSSIBLE", "flick(1, 2, 2) = 0", "count(2) = 2",
            "flick(2, 2, 3) = 0", "count(2) = 0", "flick(0, 2, 40) = 0", "at(18, 1) = 0", "count(3) = 4",
            "count(7) = 1");
    }

    private static void flickWalls() throws Exception {
        Script.run("6 flick, walls",
            "putMarble(1, 28, 1, 0) = 0",
            "flick(0, 5, 4) = 0", "at(3, 28) = 0", "count(7) = 2", "pass() = 2", "pass() = 0",
            "move(0, 0, 0) = 0", "flick(0, 7, 3) = 0", "at(3, 3) = 0", "count(7) = 4", "undo() = 5",
            "count(7) = 2", "at(0, 0) = 0", "flick(0, 6, 30) = 0", "at(30, 0) = 0", "count(7) = 3",
            "pass() = 2", "pass() = 0", "flick(0, 1, 1) = 0", "at(29, 1) = 0", "count(7) = 5");
        Script.run("6 flick, a wall behind which a marble is hit",
            "putMarble(30, 4, 2, 0) = 0", "putMarble(29, 4, 1, 0) = 1",
            "flick(0, 2, 3) = 0", "count(7) = 1", "count(4) = 1", "at(30, 4) = 0", "at(23, 4) = 1");
        Script.run("6 flick, a roll comes back to the flicked marble",
            "putMarble(3, 4, 1, 0) = 0", "putMarble(2, 4, 1, 0) = 1",
            "flick(0, 6, 9) = 0", "count(4) = 2", "count(7) = 1", "at(2, 4) = 1", "at(8, 4) = 0");
        Script.run("6 flick without strength left at the wall",
            "putMarble(2, 4, 1, 0) = 0", "flick(0, 6, 2) = 0", "at(0, 4) = 0", "count(7) = 0");
    }

    private static void flickHits() throws Exception {
        Script.run("6 flick, strength passes by sizes, rounded down",
            "putMarble(5, 5, 2, 0) = 0", "putMarble(8, 5, 3, 0) = 1",
            "ifFlicked(0, 2, 2, 2) = 0", "ifFlicked(0, 2, 2, 4) = 705",
            "ifFlicked(0, 2, 3, 2) = 1", "ifFlicked(0, 2, 3, 3) = 1", "ifFlicked(0, 2, 3, 4) = 805",
            "ifFlicked(0, 2, 4, 4) = 905", "ifFlicked(0, 2, 9, 4) = 1205",
            "ifFlicked(1, 6, 9, 4) = 505", "move(1, 8, 8) = 0", "ifFlicked(0, 3, 9, 4) = 1212");
        Script.run("6 flick, at most 40 are passed on",
            "putMarble(0, 0, 3, 0) = 0", "putMarble(1, 0, 1, 0) = 1",
            "ifFlicked(0, 2, 13, 4) = 2000", "ifFlicked(0, 2, 14, 4) = 1900", "ifFlicked(0, 2, 40, 4) = 1900",
            "flick(0, 2, 40) = 0", "at(19, 0) = 1", "at(0, 0) = 0", "count(7) = 1");
        // No chain of 12 marbles is known that is longer: to the wall and back through all, across and back, and again.
        Script.run("6 flick, a chain of 44 hits",
            "putMarble(0, 0, 1, 0) = 0", "putMarble(1, 0, 1, 0) = 1", "putMarble(2, 0, 1, 0) = 2",
            "putMarble(3, 0, 1, 0) = 3", "putMarble(4, 0, 1, 0) = 4", "putMarble(5, 0, 1, 0) = 5",
            "putMarble(6, 0, 1, 0) = 6", "putMarble(7, 0, 1, 0) = 7", "putMarble(8, 0, 1, 0) = 8",
            "putMarble(9, 0, 1, 0) = 9", "putMarble(10, 0, 1, 0) = 10", "putMarble(11, 0, 1, 0) = 11",
            "ifFlicked(11, 6, 40, 2) = 44", "ifFlicked(11, 6, 40, 3) = 11", "ifFlicked(11, 6, 40, 4) = 1300",
            "ifFlicked(11, 6, 38, 2) = 22", "ifFlicked(11, 6, 39, 2) = 44", "ifFlicked(11, 6, 39, 4) = 1200",
            "flick(11, 6, 40) = 0", "count(4) = 44", "count(7) = 3", "at(13, 0) = 11", "at(10, 0) = 10");
    }

    private static void flickChalk() throws Exception {
        Script.run("6 flick, chalk costs strength on the way in and out",
            "putMarble(5, 10, 1, 0) = 0", "drawRing(10, 10, 2) = 0",
            "ifFlicked(0, 2, 2, 4) = 710", "ifFlicked(0, 2, 3, 4) = 810", "ifFlicked(0, 2, 4, 4) = 810",
            "ifFlicked(0, 2, 5, 4) = 910", "ifFlicked(0, 2, 8, 4) = 1210", "ifFlicked(0, 2, 9, 4) = 1310",
            "ifFlicked(0, 2, 10, 4) = 1310", "ifFlicked(0, 2, 11, 4) = 1410",
            "drawRing(10, 10, 2) = 1", "ifFlicked(0, 2, 3, 4) = 810", "ifFlicked(0, 2, 5, 4) = 810",
            "ifFlicked(0, 2, 6, 4) = 910",
            "drawRing(5, 10, 2) = 2", "ifFlicked(0, 2, 6, 4) = 810", "ifFlicked(0, 2, 7, 4) = 910");
    }

    private static void flickWins() throws Exception {
        // The marble rests on (12, 10): out of the ring by its old radius 1, on it by the new radius 2.
        Script.run("6 flick wins and stays on the move, the ring grows",
            "drawRing(10, 10, 1) = 0", "putMarble(10, 10, 2, 1) = 0", "putMarble(8, 10, 2, 0) = 1",
            "flick(1, 2, 3) = 0", "count(2) = 1", "marble(0, 0) = 11", "undo() = 3", "count(2) = 0",
            "ifFlicked(1, 2, 4, 4) = 1210", "flick(1, 2, 4) = 1", "count(2) = 0", "marble(0, 4) = 0",
            "marble(0, 0) = NONE", "at(12, 10) = NONE", "ring(0, 2) = 2", "count(5) = 1", "count(6) = 1",
            "count(3) = 1", "count(4) = 1", "score(0) = 2", "score(1) = -2", "at(9, 10) = 1",
            "flick(0, 2, 1) = NOT_POSSIBLE", "undo() = 3", "ring(0, 2) = 1", "marble(0, 4) = NONE",
            "at(10, 10) = 0", "count(5) = 0", "count(6) = 0");
        Script.run("6 flick, own marbles are not won",
            "drawRing(10, 10, 1) = 0", "putMarble(10, 10, 2, 0) = 0", "putMarble(8, 10, 2, 0) = 1",
            "flick(1, 2, 9) = 0", "ring(0, 2) = 1", "count(2) = 1", "marble(0, 5) = 0");
        Script.run("6 flick, a hit marble outside of the rings is not won",
            "drawRing(20, 20, 1) = 0", "putMarble(10, 10, 2, 1) = 0", "putMarble(8, 10, 2, 0) = 1",
            "flick(1, 2, 9) = 0", "count(2) = 1", "count(5) = 0");
        Script.run("6 flick, a marble that comes to rest in another ring is not won",
            "drawRing(10, 10, 1) = 0", "drawRing(14, 10, 2) = 1", "putMarble(10, 10, 1, 1) = 0",
            "putMarble(9, 10, 1, 0) = 1", "flick(1, 2, 6) = 0", "marble(0, 5) = 2", "undo() = 4",
            "flick(1, 2, 11) = 1", "ring(0, 2) = 2", "ring(1, 2) = 2", "count(6) = 1");
        // The first marble leaves the ring, comes back by two walls from outside and hits the second one.
        Script.run("6 flick wins two marbles of one ring, which grows once",
            "drawRing(4, 4, 1) = 0", "putMarble(5, 4, 1, 1) = 0", "putMarble(3, 4, 1, 2) = 1",
            "putMarble(6, 5, 1, 0) = 2", "ifFlicked(2, 7, 15, 4) = 910", "ifFlicked(2, 7, 15, 1) = 2",
            "flick(2, 7, 15) = 2", "count(4) = 2", "count(5) = 2", "count(6) = 1", "count(7) = 2",
            "ring(0, 2) = 2", "score(0) = 2", "score(1) = -1", "score(2) = -1", "count(2) = 0");
        Script.run("6 flick wins two marbles of two rings, and both grow",
            "drawRing(5, 4, 1) = 0", "drawRing(3, 4, 1) = 1", "putMarble(5, 4, 1, 1) = 0",
            "putMarble(3, 4, 3, 2) = 1", "putMarble(6, 5, 1, 0) = 2", "ifFlicked(2, 7, 10, 0) = 1",
            "ifFlicked(2, 7, 11, 1) = 4", "ifFlicked(2, 7, 11, 4) = 405", "flick(2, 7, 11) = 2",
            "ring(0, 2) = 2", "ring(1, 2) = 2", "count(6) = 2", "score(0) = 4", "score(2) = -3");
        Script.run("6 flick, all wins are decided by the radii ahead of the growth",
            "drawRing(4, 4, 2) = 0", "putMarble(5, 4, 1, 1) = 0", "putMarble(3, 4, 1, 2) = 1",
            "putMarble(6, 5, 1, 0) = 2", "ifFlicked(2, 7, 10, 4) = 506", "ifFlicked(2, 7, 9, 0) = 1",
            "ifFlicked(2, 7, 9, 4) = 405", "flick(2, 7, 10) = 2", "ring(0, 2) = 3", "count(6) = 1");
        Script.run("6 flick, a ring of radius 15 stays",
            "drawRing(15, 15, 15) = 0", "putMarble(15, 1, 3, 1) = 0", "putMarble(15, 2, 3, 0) = 1",
            "drawRing(15, 1, 14) = 1", "ifFlicked(1, 2, 40, 0) = 0",
            "move(0, 26, 25) = 1", "move(1, 25, 24) = 1", "marble(0, 5) = 1",
            "flick(1, 3, 4) = 1", "ring(0, 2) = 15", "ring(1, 2) = 14", "count(6) = 0", "count(5) = 1");
    }

    private static void flickErrors() throws Exception {
        Script.run("6 flick, errors",
            "putMarble(5, 5, 1, 0) = 0", "putMarble(6, 6, 1, 1) = 1",
            "flick(2, 0, 1) = NO_SUCH", "flick(-1, 0, 1) = NO_SUCH", "flick(2, 8, 41) = NO_SUCH",
            "flick(0, 8, 1) = BAD_VALUE", "flick(0, -1, 1) = BAD_VALUE", "flick(0, 0, 0) = BAD_VALUE",
            "flick(0, 0, 41) = BAD_VALUE", "flick(1, 8, 1) = BAD_VALUE", "flick(1, 0, 1) = NOT_POSSIBLE",
            "flick(0, 2147483647, 1) = BAD_VALUE", "flick(0, 0, -2147483648) = BAD_VALUE",
            "count(3) = 0", "count(2) = 0", "at(5, 5) = 0", "undo() = 1");
    }

    private static void pass() throws Exception {
        Script.run("7 pass",
            "pass() = 1", "pass() = 2", "pass() = 0", "pass() = 1", "count(2) = 1", "count(3) = 0",
            "undo() = 3", "count(2) = 0", "undo() = 2", "count(2) = 2");
    }

    private static void count() throws Exception {
        Script.run("8 count",
            "drawRing(3, 3, 2) = 0", "drawRing(3, 3, 1) = 1", "putMarble(3, 3, 1, 2) = 0",
            "putMarble(3, 5, 1, 0) = 1", "flick(1, 0, 7) = 1", "count(2) = 0", "count(7) = 0",
            "at(3, 4) = 1", "flick(1, 6, 9) = 0",
            "count(0) = 2", "count(1) = 2", "count(2) = 1", "count(3) = 2", "count(4) = 1", "count(5) = 1",
            "count(6) = 2", "count(7) = 1", "count(8) = BAD_VALUE", "count(-1) = BAD_VALUE",
            "count(2147483647) = BAD_VALUE", "count(-2147483648) = BAD_VALUE",
            "ifFlicked(1, 0, 20, 2) = 0", "bestFlick(1) = NONE", "count(3) = 2", "count(7) = 1");
    }

    private static void marble() throws Exception {
        Script.run("9 marble",
            "drawRing(3, 3, 2) = 0", "drawRing(20, 20, 1) = 1", "drawRing(3, 5, 1) = 2",
            "putMarble(3, 4, 2, 2) = 0", "putMarble(3, 6, 3, 0) = 1",
            "marble(0, 0) = 3", "marble(0, 1) = 4", "marble(0, 2) = 2", "marble(0, 3) = 2", "marble(0, 4) = NONE",
            "marble(0, 5) = 5", "marble(1, 5) = 4", "marble(0, 6) = BAD_VALUE", "marble(0, -1) = BAD_VALUE",
            "marble(2, 0) = NO_SUCH", "marble(-1, 0) = NO_SUCH", "marble(2, 6) = NO_SUCH",
            "marble(2147483647, 0) = NO_SUCH", "marble(-2147483648, 0) = NO_SUCH",
            "flick(1, 0, 6) = 1", "marble(0, 0) = NONE", "marble(0, 1) = NONE", "marble(0, 2) = 2",
            "marble(0, 3) = 2", "marble(0, 4) = 0", "marble(0, 5) = NONE", "marble(0, 6) = BAD_VALUE");
    }

    private static void ring() throws Exception {
        Script.run("10 ring",
            "drawRing(0, 0, 2) = 0", "drawRing(15, 15, 15) = 1", "drawRing(30, 12, 1) = 2",
            "ring(0, 4) = 6", "ring(1, 4) = 709", "ring(2, 4) = 4", "ring(2, 0) = 30", "ring(2, 1) = 12",
            "ring(2, 2) = 1", "ring(0, 3) = 0", "putMarble(1, 1, 1, 1) = 0", "putMarble(0, 2, 1, 1) = 1",
            "putMarble(2, 1, 1, 1) = 2", "putMarble(2, 0, 1, 0) = 3", "ring(0, 3) = 11", "ring(1, 3) = 0",
            "ring(0, 5) = BAD_VALUE", "ring(0, -1) = BAD_VALUE", "ring(3, 0) = NO_SUCH", "ring(-1, 0) = NO_SUCH",
            "ring(3, 5) = NO_SUCH", "ring(2147483647, 0) = NO_SUCH", "ring(-2147483648, 0) = NO_SUCH");
        Script.run("10 ring without the won marbles",
            "drawRing(10, 10, 1) = 0", "putMarble(10, 10, 1, 1) = 0", "putMarble(9, 10, 1, 0) = 1",
            "ring(0, 3) = 3", "ring(0, 4) = 5", "flick(1, 2, 9) = 1", "ring(0, 3) = 2", "ring(0, 4) = 13",
            "ring(0, 2) = 2");
    }

    private static void at() throws Exception {
        Script.run("11 at",
            "putMarble(30, 30, 1, 1) = 0", "putMarble(0, 0, 1, 1) = 1", "at(30, 30) = 0", "at(0, 0) = 1",
            "at(0, 30) = NONE", "at(30, 0) = NONE", "at(31, 0) = NO_SUCH", "at(-1, 0) = NO_SUCH",
            "at(0, 31) = NO_SUCH", "at(0, -1) = NO_SUCH", "at(2147483647, -2147483648) = NO_SUCH");
    }

    private static void scoreAndLeader() throws Exception {
        Script.run("12, 13 score and leader",
            "leader() = 0", "drawRing(10, 10, 1) = 0", "putMarble(10, 10, 3, 0) = 0", "putMarble(9, 10, 3, 1) = 1",
            "pass() = 1", "leader() = 0", "flick(1, 2, 9) = 1", "score(0) = -3", "score(1) = 3", "score(2) = 0",
            "leader() = 1", "score(3) = NO_SUCH", "score(-1) = NO_SUCH", "score(2147483647) = NO_SUCH",
            "putMarble(20, 20, 2, 2) = 2", "putMarble(19, 20, 1, 1) = 3", "drawRing(20, 20, 1) = 1",
            "flick(3, 2, 10) = 1", "score(0) = -3", "score(1) = 5", "score(2) = -2",
            "pass() = 2", "putMarble(10, 9, 3, 1) = 4", "putMarble(10, 8, 3, 2) = 5", "flick(5, 4, 20) = 1",
            "score(1) = 2", "score(2) = 1", "leader() = 1",
            "putMarble(9, 10, 2, 0) = NOT_POSSIBLE", "putMarble(10, 9, 1, 0) = 6", "flick(5, 4, 4) = 1",
            "score(0) = -4", "score(2) = 2", "score(1) = 2", "leader() = 1",
            "putMarble(10, 9, 1, 0) = 7", "flick(5, 4, 4) = 1", "score(0) = -5", "score(2) = 3", "leader() = 2");
    }

    private static void ifFlicked() throws Exception {
        Script.run("14 ifFlicked",
            "drawRing(10, 10, 1) = 0", "putMarble(10, 10, 2, 1) = 0", "putMarble(8, 10, 2, 2) = 1",
            "ifFlicked(1, 2, 6, 0) = 1", "ifFlicked(1, 2, 6, 1) = 2", "ifFlicked(1, 2, 6, 2) = 1",
            "ifFlicked(1, 2, 6, 3) = 0", "ifFlicked(1, 2, 6, 4) = 1310",
            "ifFlicked(1, 2, 3, 0) = 0", "ifFlicked(1, 2, 3, 1) = 0", "ifFlicked(1, 6, 5, 3) = 1",
            "ifFlicked(1, 6, 5, 4) = 310", "ifFlicked(0, 6, 6, 0) = 0",
            "ifFlicked(1, 2, 6, 5) = BAD_VALUE", "ifFlicked(1, 2, 6, -1) = BAD_VALUE",
            "ifFlicked(1, 8, 6, 0) = BAD_VALUE", "ifFlicked(1, -1, 6, 0) = BAD_VALUE",
            "ifFlicked(1, 2, 0, 0) = BAD_VALUE", "ifFlicked(1, 2, 41, 0) = BAD_VALUE",
            "ifFlicked(2, 8, 41, 5) = NO_SUCH", "ifFlicked(-1, 2, 6, 0) = NO_SUCH",
            "count(3) = 0", "count(4) = 0", "count(5) = 0", "count(2) = 0", "at(8, 10) = 1", "at(10, 10) = 0",
            "ring(0, 2) = 1", "pass() = 1", "pass() = 2", "flick(1, 2, 6) = 1",
            "ifFlicked(0, 2, 6, 0) = NOT_POSSIBLE", "ifFlicked(0, 2, 6, 5) = BAD_VALUE", "undo() = 5");
    }

    private static void bestFlick() throws Exception {
        Script.run("15 bestFlick",
            "putMarble(8, 10, 2, 2) = 0", "bestFlick(0) = NONE", "putMarble(10, 10, 2, 1) = 1",
            "bestFlick(0) = NONE", "drawRing(10, 10, 1) = 0", "bestFlick(0) = 204", "bestFlick(2) = NO_SUCH",
            "bestFlick(-1) = NO_SUCH", "putMarble(8, 8, 2, 2) = 2", "bestFlick(2) = 302", "bestFlick(1) = NONE",
            "count(3) = 0", "at(8, 10) = 0",
            "pass() = 1", "pass() = 2", "flick(0, 2, 6) = 1", "bestFlick(1) = NOT_POSSIBLE", "bestFlick(0) = NONE");
        Script.run("15 bestFlick, the greatest sum, then the least strength, then the lowest direction",
            "drawRing(10, 10, 2) = 0", "putMarble(10, 10, 1, 0) = 0",
            "putMarble(10, 8, 1, 1) = 1", "putMarble(12, 10, 1, 1) = 2", "putMarble(8, 10, 1, 2) = 3",
            "bestFlick(0) = 2", "move(1, 10, 20) = 0", "bestFlick(0) = 202", "putMarble(11, 11, 3, 2) = 4",
            "bestFlick(0) = 303");
    }

    private static void wayOut() throws Exception {
        Script.run("16 wayOut",
            "putMarble(10, 10, 1, 0) = 0", "wayOut(0) = 0", "drawRing(10, 10, 3) = 0", "wayOut(0) = 3",
            "putMarble(13, 10, 1, 0) = 1", "wayOut(1) = 1", "putMarble(14, 10, 1, 0) = 2", "wayOut(2) = 0",
            "wayOut(3) = NO_SUCH", "wayOut(-1) = NO_SUCH", "drawRing(10, 6, 3) = 1", "wayOut(0) = 3",
            "drawRing(13, 10, 2) = 2", "wayOut(1) = 2", "wayOut(2) = 1");
        Script.run("16 wayOut, in a corner and behind the wall",
            "drawRing(0, 0, 2) = 0", "putMarble(0, 0, 1, 1) = 0", "wayOut(0) = 2",
            "drawRing(3, 3, 2) = 1", "wayOut(0) = 3", "undo() = 2", "putMarble(0, 1, 1, 0) = 1",
            "wayOut(1) = 1");
        Script.run("16 wayOut, no direction leads out",
            "drawRing(15, 0, 15) = 0", "drawRing(15, 15, 15) = 1", "drawRing(15, 30, 15) = 2",
            "putMarble(15, 15, 1, 0) = 0", "wayOut(0) = NONE",
            "move(0, 15, 0) = 2", "wayOut(0) = NONE", "move(0, 14, 0) = 1", "wayOut(0) = 14");
        Script.run("16 wayOut, from one corner to the other",
            "drawRing(15, 0, 15) = 0", "drawRing(0, 15, 15) = 1", "drawRing(22, 22, 10) = 2",
            "putMarble(0, 0, 1, 0) = 0", "wayOut(0) = 30", "drawRing(30, 30, 1) = 3", "wayOut(0) = NONE");
        Script.run("16 wayOut of a won marble",
            "drawRing(10, 10, 1) = 0", "putMarble(10, 10, 1, 1) = 0", "putMarble(9, 10, 1, 0) = 1",
            "flick(1, 2, 9) = 1", "wayOut(0) = NOT_POSSIBLE", "wayOut(1) = 1");
    }

    private static void type() throws Exception {
        Script.run("17, 18 type and clearText",
            "clearText() = 0", "type(33) = 1", "type(126) = 2", "type(32) = BAD_VALUE", "type(127) = BAD_VALUE",
            "type(-2147483648) = BAD_VALUE", "type(65645) = BAD_VALUE", "clearText() = 2", "clearText() = 0",
            "text(12345678901234567890123456789012345678901234567890123456789012345678901234567890)",
            "type(49) = LIMIT", "type(32) = BAD_VALUE", "clearText() = 80", "type(109) = 1",
            "undo() = NOT_POSSIBLE", "clearText() = 1");
    }

    private static void syntaxError() throws Exception {
        fault("", 0);
        fault("x", 0);
        fault("m", 1);
        fault("r", 1);
        fault("M0,0s1p0", 0);
        fault("m0,0s1p0", ChalkRings.NONE);
        fault("m30,30s3p2", ChalkRings.NONE);
        fault("m29,9s2p1", ChalkRings.NONE);
        fault("r0,30:15", ChalkRings.NONE);
        fault("r30,0:1", ChalkRings.NONE);
        fault("r30,0:9;m1,1s1p1;r2,2:10", ChalkRings.NONE);
        fault("m31,0s1p0", 2);
        fault("m40,0s1p0", 2);
        fault("m00,0s1p0", 2);
        fault("m01,0s1p0", 2);
        fault("m300,0s1p0", 3);
        fault("m,0s1p0", 1);
        fault("m3,31s1p0", 4);
        fault("m3,04s1p0", 4);
        fault("m3,4:1p0", 4);
        fault("m3,4s0p0", 5);
        fault("m3,4s4p0", 5);
        fault("m3,4s10p0", 6);
        fault("m3,4s3p3", 7);
        fault("m3,4s3q3", 6);
        fault("m3,4s3p20", 8);
        fault("m3,4s3p01", 8);
        fault("m3,4s3p0m", 8);
        fault("m3,4s3p0;", 9);
        fault("m3,4s3p0;;", 9);
        fault("m3,4s3p0;m", 10);
        fault(";m3,4s3p0", 0);
        fault("r3,4:0", 5);
        fault("r3,4:16", 6);
        fault("r3,4:20", 6);
        fault("r3,4:150", 7);
        fault("r3,4:01", 5);
        fault("r3,4s1p0", 4);
        fault("r3,4:", 5);
        fault("r3,4", 4);
        fault("r3", 2);
        fault("r3x4,!", 2);
        fault("r0,0:1;r0,0:1;r0,0:1;r0,0:1;r0,0:1;r0,0:1;r0,0:1;r0,0:1;r0,0:1;r0,0:1;r0,0:1;m30", 80);
    }

    private static void fault(String signs, int due) throws Exception {
        Script.run("19 syntaxError of " + signs, "text(" + signs + ")", "syntaxError() = " + due,
            "clearText() = " + signs.length());
    }

    private static void readItems() throws Exception {
        Script.run("20 readItems",
            "text(m3,30s3p2;r4,5:15;m0,0s1p0;r30,29:1)", "readItems() = 4", "count(0) = 2", "count(1) = 2",
            "marble(0, 0) = 3", "marble(0, 1) = 30", "marble(0, 2) = 3", "marble(0, 3) = 2",
            "ring(0, 0) = 4", "ring(0, 1) = 5", "ring(0, 2) = 15", "at(0, 0) = 1", "marble(1, 2) = 1",
            "marble(1, 3) = 0", "ring(1, 0) = 30", "ring(1, 1) = 29", "ring(1, 2) = 1",
            "clearText() = 0", "undo() = 0", "count(0) = 0", "count(1) = 0", "clearText() = 0");
        Script.run("20 readItems, the first refused item ends it",
            "putMarble(5, 5, 1, 0) = 0", "text(m4,4s1p1;m5,5s1p0;m6,6s1p0)", "readItems() = 1", "count(0) = 2",
            "at(6, 6) = NONE", "clearText() = 0", "undo() = 1", "count(0) = 1",
            "text(m5,5s1p0)", "readItems() = 0", "clearText() = 0", "undo() = 1", "count(0) = 1");
        Script.run("20 readItems, limits",
            "text(r1,1:1;r1,1:1;r1,1:1;r1,1:1;r1,1:1;m1,1s1p1)", "readItems() = 4", "count(1) = 4",
            "count(0) = 0",
            "text(m0,0s1p0;m1,0s1p0;m2,0s1p0;m3,0s1p0;m4,0s1p0;m5,0s1p0;m6,0s1p0;m7,0s1p0)", "readItems() = 8",
            "text(m8,0s1p0;m9,0s1p0;m10,0s1p0;m11,0s1p0;m12,0s1p0;r1,1:1)", "readItems() = 4", "count(0) = 12",
            "undo() = 2", "count(0) = 8");
        Script.run("20 readItems, bad texts stay",
            "readItems() = BAD_TEXT", "text(m4,4s1p1;)", "readItems() = BAD_TEXT", "count(0) = 0",
            "clearText() = 9", "text(m4,4s1p1;m4,4s1p)", "readItems() = BAD_TEXT", "type(48) = 17",
            "undo() = NOT_POSSIBLE", "readItems() = 1");
    }

    private static void undo() throws Exception {
        Script.run("21 undo",
            "undo() = NOT_POSSIBLE", "pass() = 1", "pass() = 2", "pass() = 0", "pass() = 1", "pass() = 2",
            "pass() = 0", "pass() = 1", "pass() = 2", "undo() = 5", "count(2) = 1", "undo() = 4", "undo() = 3",
            "undo() = 2", "pass() = 2", "undo() = 2", "undo() = 1", "undo() = 0", "count(2) = 2",
            "undo() = NOT_POSSIBLE", "count(2) = 2");
        Script.run("21 undo leaves the text",
            "text(m1)", "pass() = 1", "type(44) = 3", "undo() = 0", "clearText() = 3");
        Script.run("21 errors save no state",
            "putMarble(31, 0, 1, 0) = NO_SUCH", "drawRing(0, 0, 0) = BAD_VALUE", "move(0, 0, 0) = NO_SUCH",
            "flick(0, 0, 1) = NO_SUCH", "readItems() = BAD_TEXT", "undo() = NOT_POSSIBLE",
            "count(9) = BAD_VALUE", "ifFlicked(0, 0, 1, 0) = NO_SUCH", "undo() = NOT_POSSIBLE");
    }

    private static void digest() throws Exception {
        Script.run("22 digest",
            "digest() = " + Script.hash(0, 0, 0, 0, 0, 0, 0, 0, 0, 0, 0, 0),
            "drawRing(10, 10, 1) = 0", "putMarble(10, 10, 2, 1) = 0", "putMarble(8, 10, 2, 0) = 1",
            "digest() = " + Script.hash(2, 1, 0, 0, 0, 0, 0, 0, 10, 10, 2, 1, -1006, 1, 8, 10, 2, 0, -1006, 0,
                10, 10, 1, 1, 5, 0, 0, 0, 0, 1, 0),
            "flick(1, 2, 6) = 1",
            "digest() = " + Script.hash(2, 1, 0, 1, 1, 1, 1, 0, -1006, -1006, 2, 1, 0, -1006, 9, 10, 2, 0, -1006, 1,
                10, 10, 2, 2, 13, 2, -2, 0, 0, -1003, 1));
    }
}
