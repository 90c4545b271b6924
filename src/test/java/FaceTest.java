import java.lang.reflect.Constructor;
import java.lang.reflect.Field;
import java.lang.reflect.Member;
import java.lang.reflect.Method;
import java.lang.reflect.Modifier;
import java.util.ArrayList;
import java.util.Arrays;
import java.util.List;

/** The class has the document's face, and no other member that can be seen. */
public final class FaceTest {
    private static final String[] FACE = {
        "public double meanPrice()",
        "public int append(int) throws IllegalArgumentException, IllegalStateException",
        "public int begin(int, int) throws IllegalArgumentException",
        "public int bestLength()",
        "public int buy(int, int, int) throws IllegalArgumentException, IllegalStateException",
        "public int clearBuffer()",
        "public int clearHeap(int) throws IllegalArgumentException",
        "public int count(int) throws IllegalArgumentException",
        "public int course(int) throws IllegalArgumentException, IllegalStateException",
        "public int courseOf(int, int) throws IndexOutOfBoundsException, IllegalArgumentException",
        "public int cover(boolean)",
        "public int dryDays()",
        "public int firstError()",
        "public int lay(int) throws IllegalArgumentException, IllegalStateException",
        "public int mend(int, int) throws IndexOutOfBoundsException, IllegalStateException",
        "public int pass(int) throws IllegalArgumentException, IllegalStateException",
        "public int reach(int) throws IllegalArgumentException",
        "public int recut(int, int, int) throws IllegalArgumentException, IllegalStateException",
        "public int set(int, int) throws IndexOutOfBoundsException, IllegalArgumentException",
        "public int setting(int) throws IndexOutOfBoundsException",
        "public int slates(int, int) throws IllegalArgumentException",
        "public int toTop(int, int) throws IllegalArgumentException",
        "public int undo() throws IllegalStateException",
        "public int work() throws IllegalArgumentException, IllegalStateException",
        "public boolean lies(int, int) throws IndexOutOfBoundsException",
        "public long digest()",
    };

    private static String withoutPackages(String text) {
        return text.replace("java.lang.", "").replace("SlateRoof.", "").replace(",", ", ").replace(",  ", ", ");
    }

    private static boolean isSeen(Member member) {
        return !Modifier.isPrivate(member.getModifiers()) && !member.isSynthetic();
    }

    public static void main(String[] args) throws Exception {
        Class<?> face = SlateRoof.class;
        Check.same("modifiers", Modifier.toString(face.getModifiers()), "public final");

        List<String> seen = new ArrayList<>();
        List<String> privateNames = new ArrayList<>();
        List<String> publicNames = new ArrayList<>();
        for (Method method : face.getDeclaredMethods()) {
            if (isSeen(method)) {
                seen.add(withoutPackages(method.toGenericString()));
                publicNames.add(method.getName());
            } else {
                privateNames.add(method.getName());
            }
        }
        String[] due = FACE.clone();
        Arrays.sort(due);
        String[] got = seen.toArray(new String[0]);
        Arrays.sort(got);
        Check.same("methods", String.join("\n", got), String.join("\n", due));
        privateNames.retainAll(publicNames);
        Check.same("private methods with a public name", privateNames.toString(), "[]");

        for (Field field : face.getDeclaredFields()) {
            if (isSeen(field)) {
                Check.same("field", field.toString(), "public static final int SlateRoof.NONE");
            }
        }
        Check.same("NONE", SlateRoof.NONE, -1);
        Constructor<?>[] makers = face.getDeclaredConstructors();
        Check.same("constructors", makers.length, 1);
        Check.same("constructor", makers[0].toString(), "public SlateRoof()");
        for (Class<?> inner : face.getDeclaredClasses()) {
            Check.same(inner.getName() + " is static", Modifier.isStatic(inner.getModifiers()), true);
            Check.same(inner.getName() + " is hidden",
                    Modifier.isPublic(inner.getModifiers()) || Modifier.isProtected(inner.getModifiers()), false);
        }
        Check.end("FaceTest");
    }
}
