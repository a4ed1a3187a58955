import java.lang.reflect.Constructor;
import java.lang.reflect.Field;
import java.lang.reflect.Member;
import java.lang.reflect.Method;
import java.lang.reflect.Modifier;
import java.util.Arrays;
import java.util.Set;
import java.util.TreeSet;

/** The public face: what the document lists, and nothing else that can be seen from outside. */
public final class FaceTest {
    private static final Due DUE = new Due();

    public static void main(String[] args) {
        DUE.holds("public and final", PieceRow.class.getModifiers() == (Modifier.PUBLIC | Modifier.FINAL));
        DUE.is("BAD", PieceRow.BAD, -1);
        DUE.is("NONE", PieceRow.NONE, -2);
        DUE.is("FULL", PieceRow.FULL, -3);
        Set<String> seen = new TreeSet<>();
        for (Field field : PieceRow.class.getDeclaredFields()) {
            add(seen, field, field.getType() + " " + field.getName());
        }
        for (Constructor<?> made : PieceRow.class.getDeclaredConstructors()) {
            add(seen, made, "new" + Arrays.toString(made.getParameterTypes()));
        }
        for (Method method : PieceRow.class.getDeclaredMethods()) {
            add(seen, method, method.getReturnType() + " " + method.getName()
                + Arrays.toString(method.getParameterTypes()));
        }
        Set<String> face = new TreeSet<>(Set.of(
            "public static final int BAD", "public static final int NONE", "public static final int FULL",
            "public new[]", "public void begin[boolean]", "public int put[long, int]",
            "public int fill[int, int, int]", "public long reference[]", "public int close[]",
            "public int size[int]", "public long word[int]", "public int patch[int, int]",
            "public int cut[int]", "public int read[]", "public int byteAt[long]",
            "public int start[int]"));
        DUE.is("the face", seen.toString(), face.toString());
        DUE.end();
    }

    private static void add(Set<String> seen, Member member, String name) {
        if (!Modifier.isPrivate(member.getModifiers()) && !member.isSynthetic()) {
            seen.add((Modifier.toString(member.getModifiers()) + " " + name).strip());
        }
    }
}
