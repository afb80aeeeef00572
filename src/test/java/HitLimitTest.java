import java.lang.reflect.Method;
import java.net.URL;
import java.net.URLClassLoader;
import java.nio.file.Files;
import java.nio.file.Path;
import java.util.Comparator;
import java.util.List;
import java.util.stream.Stream;
import javax.tools.ToolProvider;

/**
 * Promise 6, "behind its 60th hit (then the marble that was hit last rests where it is)".
 * Twelve marbles reach 44 hits at most: in a row over the 31 points between two walls they leave 19 points free, so
 * that 22 hits cost 38 steps, and no roll has twice as many. So the class is compiled once more with room for 18.
 * It is run in the project's folder.
 */
public final class HitLimitTest {
    private static final Path SOURCE = Path.of("src", "main", "java", "ChalkRings.java");
    private static final String LIMIT = "MAX_MARBLES = 12;";
    private static final String WIDER = "MAX_MARBLES = 18;";
    private static final int MARBLES = 18;

    public static void main(String[] args) throws Exception {
        Path folder = Files.createTempDirectory("hit-limit");
        try {
            Class<?> wider = compile(folder);
            // From marble 8 the 59th hit is the one of the last marble in the row, which still rolls to the wall.
            check(wider, 8, 59, 17, 2900, 4);
            // From marble 9 it is the 60th hit, and the marble rests though it has the strength to roll on.
            check(wider, 9, 60, 17, 1700, 3);
            // From marble 10 the roll stops one marble short of it.
            check(wider, 10, 60, 16, 1600, 3);
        } finally {
            delete(folder);
        }
        Script.finish();
    }

    private static Class<?> compile(Path folder) throws Exception {
        String source = Files.readString(SOURCE);
        Script.check("the source has the limit of marbles once", source.split(LIMIT, -1).length, 2);
        Path file = folder.resolve("ChalkRings.java");
        Files.writeString(file, source.replace(LIMIT, WIDER));
        int failed = ToolProvider.getSystemJavaCompiler().run(null, null, null, "-d", folder.toString(), file.toString());
        Script.check("compiling the wider class", failed, 0);
        URLClassLoader loader = new URLClassLoader(new URL[] {folder.toUri().toURL()},
            ClassLoader.getPlatformClassLoader());
        return loader.loadClass("ChalkRings");
    }

    /** All marbles lie in a row from the wall on; one of them is flicked to the wall. */
    private static void check(Class<?> wider, int flicked, int hits, int last, int place, int walls) throws Exception {
        Object game = wider.getConstructor().newInstance();
        for (int i = 0; i < MARBLES; i++) {
            Script.check("putMarble " + i, call(game, "putMarble", i, 0, 1, 0), i);
        }
        String told = "flicked is marble " + flicked + ": ";
        Script.check(told + "forecast of the hits", call(game, "ifFlicked", flicked, 6, 40, 2), hits);
        Script.check(told + "forecast of the last marble", call(game, "ifFlicked", flicked, 6, 40, 3), last);
        Script.check(told + "forecast of its place", call(game, "ifFlicked", flicked, 6, 40, 4), place);
        Script.check(told + "the flick", call(game, "flick", flicked, 6, 40), 0);
        Script.check(told + "hits", call(game, "count", 4), hits);
        Script.check(told + "walls", call(game, "count", 7), walls);
        Script.check(told + "the last marble's place", call(game, "at", place / 100, place % 100), last);
    }

    private static int call(Object game, String name, Object... arguments) throws Exception {
        for (Method method : game.getClass().getMethods()) {
            if (method.getName().equals(name)) {
                return (int) method.invoke(game, arguments);
            }
        }
        throw new IllegalArgumentException(name);
    }

    private static void delete(Path folder) throws Exception {
        try (Stream<Path> all = Files.walk(folder)) {
            List<Path> inside = all.sorted(Comparator.reverseOrder()).toList();
            for (Path path : inside) {
                Files.delete(path);
            }
        }
    }
}
