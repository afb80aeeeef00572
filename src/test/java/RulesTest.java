import java.nio.file.Files;
import java.nio.file.Path;
import java.util.regex.Matcher;
import java.util.regex.Pattern;

/** The rules of LANGUAGE.md that can be seen in the source's words; it is run in the project's folder. */
public final class RulesTest {
    private static final Path SOURCE = Path.of("src", "main", "java", "ChalkRings.java");
    private static final String[] BANNED = {
        "\\b(throw|throws|try|catch|finally|synchronized|assert|import|package|native|volatile|goto|yield)\\b",
        "->", "::", "@", "\\bvar\\b", "\\bObject\\b", "\\bThread\\b", "\\bSystem\\.(?!arraycopy)", "Exact\\b",
        "\\b(equals|hashCode|toString)\\b", "\\bstatic \\{", "\\b(protected|transient)\\b", "\\bMath\\.random",
        "\\b(java|javax)\\."};
    private static final int LONGEST_METHOD = 60;

    public static void main(String[] args) throws Exception {
        String source = Files.readString(SOURCE);
        String code = source.replaceAll("(?s)/\\*.*?\\*/", "").replaceAll("//[^\n]*", "")
            .replaceAll("'(\\\\.|[^'])'", "' '").replaceAll("\"[^\"\n]*\"", "\" \"");
        for (String banned : BANNED) {
            Matcher found = Pattern.compile(banned).matcher(code);
            Script.check("words that the language rules out: " + banned, found.find() ? 1 : 0, 0);
        }
        Script.check("signs beyond 127", source.chars().filter(c -> c > 126 || c < 32 && c != '\n').count(), 0);
        checkStaticFields(code);
        checkMethods(code);
        Script.finish();
    }

    private static void checkStaticFields(String code) {
        Matcher statics = Pattern.compile("static (?!final )[^(\n]*[;=]").matcher(code);
        Script.check("static fields that are not final", statics.find() ? 1 : 0, 0);
        Matcher nested = Pattern.compile("\n ++(?!private static final class)[^\n]*\\bclass\\b").matcher(code);
        Script.check("classes inside that are not private, static and final", nested.find() ? 1 : 0, 0);
    }

    private static void checkMethods(String code) {
        Matcher head = Pattern.compile("\n( +)(?:[A-Za-z\\[\\]]+ )*[A-Za-z]+\\(([^()]*)\\) \\{\n").matcher(code);
        int methods = 0;
        while (head.find()) {
            int end = code.indexOf("\n" + head.group(1) + "}", head.end() - 1);
            long lines = code.substring(head.start() + 1, end + 1).lines().count() + 1;
            int parameters = head.group(2).isBlank() ? 0 : head.group(2).split(",").length;
            String name = head.group().strip();
            Script.check("the length of " + name, lines > LONGEST_METHOD ? lines : 0, 0);
            Script.check("the parameters of " + name, parameters > 7 ? parameters : 0, 0);
            methods++;
        }
        Script.check("methods are found", methods > 50 ? 1 : 0, 1);
    }
}
