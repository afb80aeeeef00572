import java.util.Random;

/** Long runs of calls, the same ones each time, on the program and on the model; each answer has to be the same. */
public final class RandomRunsTest {
    private static final int RUNS = 150;
    private static final int CALLS = 512;
    private static final String SIGNS = "mr,;sp:0123456789";
    private static final int[] ODD = {-2147483648, -1, 0, 3, 4, 6, 8, 12, 16, 31, 41, 2147483647};

    private final Random random;
    private final int span;
    private final ChalkRings game = new ChalkRings();
    private final Model model = new Model();
    private final StringBuilder told = new StringBuilder();

    private static long wins = 0;
    private static long grows = 0;
    private static long manyWins = 0;
    private static int mostHits = 0;

    private RandomRunsTest(int seed) {
        random = new Random(seed);
        // Small spans bring crowds, in which marbles meet.
        span = seed % 3 == 0 ? 31 : 4 + random.nextInt(12);
    }

    public static void main(String[] args) {
        for (int seed = 0; seed < RUNS; seed++) {
            new RandomRunsTest(seed).run(seed);
        }
        // Runs without wins and chains would show nothing.
        Script.check("runs have wins", wins > 1000 ? 1 : 0, 1);
        Script.check("runs have growing rings", grows > 1000 ? 1 : 0, 1);
        Script.check("runs have flicks that win several", manyWins > 5 ? 1 : 0, 1);
        Script.check("runs have chains of hits", mostHits > 10 ? 1 : 0, 1);
        System.out.println(wins + " wins, " + grows + " grown rings, " + manyWins + " flicks with several wins, up to "
            + mostHits + " hits");
        Script.finish();
    }

    private void run(int seed) {
        for (int call = 0; call < CALLS; call++) {
            int before = model.count(5);
            int hitsBefore = model.count(4);
            int growsBefore = model.count(6);
            if (!step()) {
                String last = told.substring(told.lastIndexOf("\n") + 1);
                Script.check("seed " + seed + ", call " + call + ": " + last, 1, 0);
                return;
            }
            wins += Math.max(0, model.count(5) - before);
            grows += Math.max(0, model.count(6) - growsBefore);
            manyWins += model.count(3) > 0 && model.count(5) - before > 1 ? 1 : 0;
            mostHits = Math.max(mostHits, model.count(4) - hitsBefore);
        }
        Script.check("seed " + seed, 0, 0);
    }

    private boolean step() {
        int kind = random.nextInt(100);
        if (kind < 12) {
            int x = place(), y = place(), size = near(1, 3), owner = near(0, 2);
            return same("putMarble " + x + " " + y + " " + size + " " + owner,
                game.putMarble(x, y, size, owner), model.putMarble(x, y, size, owner));
        } else if (kind < 16) {
            int x = place(), y = place(), radius = random.nextInt(3) == 0 ? near(1, 15) : near(1, 3);
            return same("drawRing " + x + " " + y + " " + radius,
                game.drawRing(x, y, radius), model.drawRing(x, y, radius));
        } else if (kind < 21) {
            int marble = number(), x = place(), y = place();
            return same("move " + marble + " " + x + " " + y, game.move(marble, x, y), model.move(marble, x, y));
        } else if (kind < 22) {
            return random.nextInt(8) != 0 || same("clear", game.clear(), model.clear());
        } else if (kind < 40) {
            return flickSome();
        } else if (kind < 43) {
            return same("pass", game.pass(), model.pass());
        } else if (kind < 58) {
            return ask();
        } else if (kind < 70) {
            return forecast();
        } else if (kind < 86) {
            return write();
        } else if (kind < 92) {
            return same("undo", game.undo(), model.undo());
        }
        return same("digest", game.digest(), model.digest());
    }

    private boolean flickSome() {
        int marble = number(), direction = near(0, 7), strength = near(1, 40);
        // Mostly by the best flick of one of the marbles on the move, so that the runs have wins.
        if (random.nextInt(4) != 0) {
            for (int i = 0; i < model.count(0); i++) {
                if (model.marble(i, 3) == model.count(2) && model.marble(i, 0) >= 0) {
                    marble = i;
                    int best = random.nextInt(3) == 0 ? model.bestFlick(i) : -1;
                    if (best > 0) {
                        direction = best / 100;
                        strength = best % 100;
                        break;
                    }
                }
            }
        }
        return same("flick " + marble + " " + direction + " " + strength,
            game.flick(marble, direction, strength), model.flick(marble, direction, strength));
    }

    private boolean ask() {
        int what = near(0, 5);
        switch (random.nextInt(6)) {
            case 0: what = near(0, 7);
                return same("count " + what, game.count(what), model.count(what));
            case 1: int marble = number();
                return same("marble " + marble + " " + what, game.marble(marble, what), model.marble(marble, what));
            case 2: int ring = near(0, 3);
                return same("ring " + ring + " " + what, game.ring(ring, what), model.ring(ring, what));
            case 3: int x = place(), y = place();
                return same("at " + x + " " + y, game.at(x, y), model.at(x, y));
            case 4: int player = near(0, 2);
                return same("score " + player, game.score(player), model.score(player));
            default:
                return same("leader", game.leader(), model.leader());
        }
    }

    private boolean forecast() {
        int marble = number();
        switch (random.nextInt(8)) {
            case 0:
                return same("bestFlick " + marble, game.bestFlick(marble), model.bestFlick(marble));
            case 1: case 2:
                return same("wayOut " + marble, game.wayOut(marble), model.wayOut(marble));
            default:
                int direction = near(0, 7), strength = near(1, 40), what = near(0, 4);
                return same("ifFlicked " + marble + " " + direction + " " + strength + " " + what,
                    game.ifFlicked(marble, direction, strength, what),
                    model.ifFlicked(marble, direction, strength, what));
        }
    }

    private boolean write() {
        switch (random.nextInt(12)) {
            case 0:
                return same("clearText", game.clearText(), model.clearText());
            case 1: case 2:
                return same("readItems", game.readItems(), model.readItems());
            case 3: int code = near(33, 126);
                return same("type " + code, game.type(code), model.type(code))
                    && same("syntaxError", game.syntaxError(), model.syntaxError());
            case 4: case 5:
                return typeAll(String.valueOf(SIGNS.charAt(random.nextInt(SIGNS.length()))))
                    && same("syntaxError", game.syntaxError(), model.syntaxError());
            default:
                return typeAll((model.syntaxError() == Model.NONE ? ";" : "") + item())
                    && same("syntaxError", game.syntaxError(), model.syntaxError());
        }
    }

    private boolean typeAll(String signs) {
        for (int i = 0; i < signs.length(); i++) {
            int code = signs.charAt(i);
            if (!same("type " + code, game.type(code), model.type(code))) {
                return false;
            }
        }
        return true;
    }

    private String item() {
        int end = random.nextInt(10) == 0 ? 33 : Math.min(span, 31);
        String point = random.nextInt(end) + "," + random.nextInt(end);
        if (random.nextInt(4) == 0) {
            return "r" + point + ":" + (1 + random.nextInt(random.nextInt(8) == 0 ? 20 : 4));
        }
        return "m" + point + "s" + (1 + random.nextInt(3)) + "p" + random.nextInt(random.nextInt(12) == 0 ? 5 : 3);
    }

    private boolean same(String call, long got, long want) {
        told.append('\n').append(call).append(" answered ").append(got).append(", the model ").append(want);
        return got == want;
    }

    private int place() {
        return random.nextInt(40) == 0 ? near(0, 30) : random.nextInt(span);
    }

    private int number() {
        int marbles = model.count(0);
        return marbles == 0 || random.nextInt(20) == 0 ? near(0, 11) : random.nextInt(marbles);
    }

    private int near(int low, int high) {
        if (random.nextInt(25) == 0) {
            return ODD[random.nextInt(ODD.length)];
        }
        int value = low + random.nextInt(high - low + 1);
        return random.nextInt(25) == 0 ? random.nextBoolean() ? low - 1 : high + 1 : value;
    }
}
