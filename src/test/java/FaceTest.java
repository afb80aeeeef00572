import java.lang.reflect.Constructor;
import java.lang.reflect.Field;
import java.lang.reflect.Method;
import java.lang.reflect.Modifier;
import java.util.Arrays;
import java.util.Set;
import java.util.TreeSet;

/** The public face: the members of the document, and no other member that is not private. */
public final class FaceTest {
    private static final String[] DUE = {
        "field int BAD_TEXT", "field int BAD_VALUE", "field int LIMIT", "field int NONE",
        "field int NOT_POSSIBLE", "field int NO_SUCH", "constructor []",
        "int putMarble[int, int, int, int]", "int drawRing[int, int, int]", "int move[int, int, int]",
        "int clear[]", "int flick[int, int, int]", "int pass[]", "int count[int]", "int marble[int, int]",
        "int ring[int, int]", "int at[int, int]", "int score[int]", "int leader[]",
        "int ifFlicked[int, int, int, int]", "int bestFlick[int]", "int wayOut[int]", "int type[int]",
        "int clearText[]", "int syntaxError[]", "int readItems[]", "int undo[]", "long digest[]"};

    public static void main(String[] args) {
        Set<String> found = new TreeSet<>();
        Set<String> publicNames = new TreeSet<>();
        for (Field field : ChalkRings.class.getDeclaredFields()) {
            if (!Modifier.isPrivate(field.getModifiers())) {
                boolean constant = Modifier.isPublic(field.getModifiers())
                    && Modifier.isStatic(field.getModifiers()) && Modifier.isFinal(field.getModifiers());
                found.add((constant ? "field " : "wrong field ") + field.getType() + " " + field.getName());
            }
        }
        for (Constructor<?> made : ChalkRings.class.getDeclaredConstructors()) {
            if (!Modifier.isPrivate(made.getModifiers())) {
                found.add((Modifier.isPublic(made.getModifiers()) ? "constructor " : "wrong constructor ")
                    + Arrays.toString(made.getParameterTypes()));
            }
        }
        for (Method method : ChalkRings.class.getDeclaredMethods()) {
            if (!Modifier.isPrivate(method.getModifiers())) {
                publicNames.add(method.getName());
                found.add((method.getModifiers() == Modifier.PUBLIC ? "" : "wrong method ")
                    + method.getReturnType() + " " + method.getName() + Arrays.toString(method.getParameterTypes()));
            }
        }
        boolean good = found.equals(new TreeSet<>(Arrays.asList(DUE)));
        good &= Modifier.isPublic(ChalkRings.class.getModifiers());
        good &= Modifier.isFinal(ChalkRings.class.getModifiers());
        for (Method method : ChalkRings.class.getDeclaredMethods()) {
            good &= !Modifier.isPrivate(method.getModifiers()) || !publicNames.contains(method.getName());
        }
        for (Class<?> inside : ChalkRings.class.getDeclaredClasses()) {
            good &= Modifier.isStatic(inside.getModifiers()) && !Modifier.isPublic(inside.getModifiers());
            for (Method method : inside.getDeclaredMethods()) {
                good &= !publicNames.contains(method.getName());
            }
        }
        System.out.println(good ? "the face is as due" : "the face is not as due: " + found);
        if (!good) {
            System.exit(1);
        }
    }
}
