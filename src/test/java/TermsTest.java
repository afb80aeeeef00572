import java.util.ArrayList;
import java.util.List;

/** What the document says ahead of Promise 1, as far as no promise says it again. */
public final class TermsTest {
    private static final int CALLS = 512;

    public static void main(String[] args) throws Exception {
        whatItIsCalls();
        whatItIsObjects();
        termsNumbersStay();
        termsScoreOfThreePlayers();
        Script.finish();
    }

    private static void whatItIsCalls() throws Exception {
        lastCall("pass() = 2");
        lastCall("undo() = 5");
        lastCall("count(2) = 1");
        lastCall("type(126) = 1");
        lastCall("clear() = 0");
        lastCall("putMarble(31, 0, 1, 0) = NO_SUCH");
        lastCall("digest() = " + Script.hash(0, 0, 1, 0, 0, 0, 0, 0, 0, 0, 0, 0));
    }

    /** Behind 511 passes player 1 is on the move. */
    private static void lastCall(String last) throws Exception {
        List<String> lines = new ArrayList<>();
        for (int call = 1; call < CALLS; call++) {
            lines.add("pass() = " + call % 3);
        }
        lines.add(last);
        Script.run("What it is: an object is used for at most 512 calls, the last one is " + last,
            lines.toArray(new String[0]));
    }

    private static void whatItIsObjects() {
        ChalkRings one = new ChalkRings();
        ChalkRings other = new ChalkRings();
        String told = "What it is: an object is a game of its own: ";
        Script.check(told + "one.putMarble", one.putMarble(3, 4, 2, 0), 0);
        Script.check(told + "other.at", other.at(3, 4), ChalkRings.NONE);
        Script.check(told + "other.drawRing", other.drawRing(3, 4, 2), 0);
        Script.check(told + "one.marble", one.marble(0, 5), 0);
        Script.check(told + "one.flick", one.flick(0, 2, 1), 0);
        Script.check(told + "other.count", other.count(2) + other.count(3), 0);
        Script.check(told + "one.type", one.type('m'), 1);
        Script.check(told + "other.clearText", other.clearText(), 0);
        Script.check(told + "other.undo", other.undo(), 0);
        Script.check(told + "one.undo", one.undo(), 1);
        Script.check(told + "one.at", one.at(3, 4), 0);
    }

    private static void termsNumbersStay() throws Exception {
        Script.run("Terms, Playground: numbered in the order in which they came, numbers stay",
            "drawRing(10, 10, 1) = 0", "putMarble(10, 10, 2, 1) = 0", "putMarble(9, 10, 2, 0) = 1",
            "putMarble(20, 20, 1, 2) = 2", "flick(1, 2, 2) = 1", "marble(0, 4) = 0", "at(9, 10) = 1", "at(20, 20) = 2",
            "putMarble(10, 10, 3, 1) = 3", "drawRing(0, 0, 1) = 1", "move(2, 0, 1) = 1", "ring(0, 2) = 2",
            "ring(0, 3) = 10", "ring(1, 2) = 1", "ring(1, 3) = 4", "marble(3, 2) = 3", "count(0) = 4");
    }

    private static void termsScoreOfThreePlayers() throws Exception {
        // Each player wins one marble: 0 wins size 3 of 1, then 1 wins size 2 of 2, then 2 wins size 1 of 0.
        Script.run("Terms, Points of a player: what the player won, less what others won of the player's marbles",
            "drawRing(10, 10, 1) = 0", "drawRing(20, 10, 1) = 1", "drawRing(10, 20, 1) = 2",
            "putMarble(10, 10, 3, 1) = 0", "putMarble(9, 10, 3, 0) = 1", "flick(1, 2, 2) = 1", "score(0) = 3",
            "score(1) = -3", "score(2) = 0", "leader() = 0", "pass() = 1", "putMarble(20, 10, 2, 2) = 2",
            "putMarble(19, 10, 2, 1) = 3", "flick(3, 2, 2) = 1", "score(0) = 3", "score(1) = -1", "score(2) = -2",
            "pass() = 2", "putMarble(10, 20, 1, 0) = 4", "putMarble(9, 20, 1, 2) = 5", "flick(5, 2, 2) = 1",
            "score(0) = 2", "score(1) = -1", "score(2) = -1", "leader() = 0", "count(5) = 3", "undo() = 5",
            "score(0) = 3", "score(2) = -2");
    }
}
