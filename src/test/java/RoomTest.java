import com.sun.management.ThreadMXBean;
import java.lang.management.ManagementFactory;

/** All calls of a run live in one room: an object makes its rows when it is made, and no call makes anything. */
public final class RoomTest {
    private static final int CALLS = 512;
    private static final long SLACK = 4096;
    private static final long MOST_OF_AN_OBJECT = 32768;

    public static void main(String[] args) {
        ThreadMXBean threads = (ThreadMXBean) ManagementFactory.getThreadMXBean();
        long self = Thread.currentThread().getId();
        play(new ChalkRings(), 1);
        threads.getThreadAllocatedBytes(self);
        long first = threads.getThreadAllocatedBytes(self);
        ChalkRings game = new ChalkRings();
        long before = threads.getThreadAllocatedBytes(self);
        Script.check("bytes made with the object (" + (before - first) + ")",
            before - first > MOST_OF_AN_OBJECT ? 1 : 0, 0);
        before = threads.getThreadAllocatedBytes(self);
        play(game, CALLS);
        long made = threads.getThreadAllocatedBytes(self) - before;
        Script.check("bytes made by the calls (" + made + ")", made > SLACK ? 1 : 0, 0);
        Script.finish();
    }

    private static void play(ChalkRings game, int rounds) {
        long sum = 0;
        for (int round = 0; round < rounds; round++) {
            sum += game.putMarble(round % 31, round % 7, 1 + round % 3, round % 3);
            sum += game.drawRing(round % 31, round % 11, 3);
            sum += game.move(round % 12, round % 29, round % 23);
            sum += game.flick(round % 12, round % 8, 1 + round % 40) + game.pass();
            sum += game.count(0) + game.marble(0, 5) + game.ring(0, 4) + game.at(3, 3) + game.score(0) + game.leader();
            sum += game.ifFlicked(0, 3, 40, 4) + game.bestFlick(round % 12) + game.wayOut(round % 12);
            sum += readOne(game, round) + game.digest() + (round % 5 == 0 ? game.undo() : 0);
            sum += round % 37 == 0 ? game.clear() : 0;
        }
        System.out.println("the sum of the answers is " + sum);
    }

    private static int readOne(ChalkRings game, int round) {
        game.type('r');
        game.type('1');
        game.type(',');
        game.type('0' + round % 10);
        game.type(':');
        game.type('2');
        int answer = game.syntaxError() + game.readItems();
        return answer + game.type(round) + game.clearText();
    }
}
