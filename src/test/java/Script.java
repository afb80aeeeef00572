import java.lang.reflect.Field;
import java.lang.reflect.Method;
import java.util.ArrayList;
import java.util.List;

/**
 * Runs of calls written as lines: "putMarble(3, 4, 1, 0) = 0". What is due is a number or a constant of the class.
 * "text(m1,2s3p1)" makes the text empty and types the signs; "new" makes a new object.
 */
final class Script {
    private static int wrong = 0;
    private static int calls = 0;

    private Script() {
    }

    static void run(String title, String... lines) throws Exception {
        ChalkRings game = new ChalkRings();
        for (String line : lines) {
            if (line.equals("new")) {
                game = new ChalkRings();
            } else if (line.startsWith("text(")) {
                typeAll(title, game, line.substring(5, line.length() - 1));
            } else {
                int due = line.lastIndexOf(" = ");
                long want = number(line.substring(due + 3).trim());
                check(title + ": " + line.substring(0, due), answer(game, line.substring(0, due)), want);
            }
        }
    }

    static void check(String call, long got, long want) {
        calls++;
        if (got != want) {
            wrong++;
            System.out.println(call + " answered " + got + ", due is " + want);
        }
    }

    static void finish() {
        System.out.println(wrong == 0 ? calls + " answers are as due" : wrong + " answers are not as due");
        if (wrong != 0) {
            System.exit(1);
        }
    }

    private static void typeAll(String title, ChalkRings game, String signs) {
        game.clearText();
        for (int i = 0; i < signs.length(); i++) {
            check(title + ": typing " + signs, game.type(signs.charAt(i)), i + 1);
        }
    }

    private static long answer(ChalkRings game, String call) throws Exception {
        int open = call.indexOf('(');
        String name = call.substring(0, open);
        List<Object> arguments = new ArrayList<>();
        for (String part : call.substring(open + 1, call.length() - 1).split(",")) {
            if (!part.isBlank()) {
                arguments.add(Integer.parseInt(part.trim()));
            }
        }
        for (Method method : ChalkRings.class.getDeclaredMethods()) {
            if (method.getName().equals(name) && method.getParameterCount() == arguments.size()) {
                return ((Number) method.invoke(game, arguments.toArray())).longValue();
            }
        }
        throw new IllegalArgumentException(call);
    }

    private static long number(String text) throws Exception {
        if (Character.isLetter(text.charAt(0))) {
            Field constant = ChalkRings.class.getField(text);
            return constant.getInt(null);
        }
        return Long.parseLong(text);
    }
}
