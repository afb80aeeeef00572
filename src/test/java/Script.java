import java.lang.reflect.Method;
import java.util.ArrayList;
import java.util.HashMap;
import java.util.List;
import java.util.Map;
import java.util.Set;

/**
 * Runs of calls written as lines: "putMarble(3, 4, 1, 0) = 0". What is due is a number or a constant of the class.
 * "text(m1,2s3p1)" makes the text empty and types the signs.
 * Each call that is refused, and each call that only asks, is also made on one of two twins of the game: behind it
 * the two have to answer alike on their state, their saved states and their text.
 */
final class Script {
    private static final int MOST_CALLS = 512;
    private static final int SAVED_AND_ONE = 7;
    private static final Set<String> ASKING = Set.of("count", "marble", "ring", "at", "score", "leader", "ifFlicked",
        "bestFlick", "wayOut", "syntaxError", "digest");
    private static final Map<String, Method> METHODS = new HashMap<>();
    private static final Map<String, Integer> CODES = Map.of("NO_SUCH", ChalkRings.NO_SUCH,
        "BAD_VALUE", ChalkRings.BAD_VALUE, "NOT_POSSIBLE", ChalkRings.NOT_POSSIBLE, "LIMIT", ChalkRings.LIMIT,
        "BAD_TEXT", ChalkRings.BAD_TEXT, "NONE", ChalkRings.NONE);
    private static int wrong = 0;
    private static int calls = 0;

    static {
        for (Method method : ChalkRings.class.getDeclaredMethods()) {
            METHODS.put(method.getName(), method);
        }
    }

    private record Call(String name, Object[] arguments) {
        static Call of(String text) {
            int open = text.indexOf('(');
            List<Object> arguments = new ArrayList<>();
            for (String part : text.substring(open + 1, text.length() - 1).split(",")) {
                if (!part.isBlank()) {
                    arguments.add(Integer.parseInt(part.trim()));
                }
            }
            return new Call(text.substring(0, open), arguments.toArray());
        }

        long answer(ChalkRings game) throws Exception {
            return ((Number) METHODS.get(name).invoke(game, arguments)).longValue();
        }
    }

    private Script() {
    }

    static void run(String title, String... lines) throws Exception {
        ChalkRings game = new ChalkRings();
        List<Call> before = new ArrayList<>();
        for (String line : lines) {
            if (line.startsWith("text(")) {
                typeAll(title, game, line.substring(5, line.length() - 1), before);
                continue;
            }
            int due = line.lastIndexOf(" = ");
            String told = title + ": " + line.substring(0, due);
            Call call = Call.of(line.substring(0, due));
            String answer = line.substring(due + 3).trim();
            check(told, call.answer(game), CODES.containsKey(answer) ? CODES.get(answer) : Long.parseLong(answer));
            if (ASKING.contains(call.name) || CODES.containsKey(answer)) {
                checkNothingChanged(told, before, call);
            }
            before.add(call);
        }
        if (before.size() > MOST_CALLS) {
            throw new IllegalArgumentException("more calls than an object is used for: " + title);
        }
    }

    static void check(String call, long got, long want) {
        calls++;
        if (got != want) {
            wrong++;
            System.out.println(call + " answered " + got + ", due is " + want);
        }
    }

    static void finish() {
        System.out.println(wrong == 0 ? calls + " answers are as due" : wrong + " answers are not as due");
        if (wrong != 0) {
            System.exit(1);
        }
    }

    /** The digest of these values, for which the document lets the hash start at 4. */
    static long hash(int... values) {
        long hash = 4;
        for (int value : values) {
            hash = 31 * hash + value;
        }
        return hash;
    }

    private static void typeAll(String title, ChalkRings game, String signs, List<Call> before) throws Exception {
        game.clearText();
        before.add(Call.of("clearText()"));
        for (int i = 0; i < signs.length(); i++) {
            Call typed = Call.of("type(" + (int) signs.charAt(i) + ")");
            check(title + ": typing " + signs, typed.answer(game), i + 1);
            before.add(typed);
        }
    }

    private static void checkNothingChanged(String told, List<Call> before, Call call) throws Exception {
        List<Long> untouched = remains(played(before));
        ChalkRings touched = played(before);
        call.answer(touched);
        check(told + " changed something", remains(touched).equals(untouched) ? 0 : 1, 0);
    }

    private static ChalkRings played(List<Call> before) throws Exception {
        ChalkRings game = new ChalkRings();
        for (Call call : before) {
            call.answer(game);
        }
        return game;
    }

    /** What a game answers on its state, its saved states and its text; the game is used up by it. */
    private static List<Long> remains(ChalkRings game) {
        List<Long> answers = new ArrayList<>();
        answers.add(game.digest());
        for (int i = 0; i < SAVED_AND_ONE; i++) {
            answers.add((long) game.undo());
            answers.add(game.digest());
        }
        answers.add((long) game.syntaxError());
        answers.add((long) game.readItems());
        answers.add(game.digest());
        // Other texts tell of themselves by what the next signs do to them.
        for (char sign : "0;m1,1s1p1".toCharArray()) {
            answers.add((long) game.type(sign));
            answers.add((long) game.syntaxError());
        }
        answers.add((long) game.readItems());
        answers.add(game.digest());
        answers.add((long) game.clearText());
        return answers;
    }
}
