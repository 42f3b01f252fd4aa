import java.lang.reflect.Constructor;
import java.lang.reflect.Field;
import java.lang.reflect.Method;
import java.lang.reflect.Modifier;
import java.util.Arrays;
import java.util.Set;
import java.util.TreeSet;

/** The class shows the document's face and no more. */
public final class FaceTest {
    private static final Set<String> DUE = Set.of(
            "public static final int UNKNOWN",
            "public static final int OUTSIDE",
            "public static final int STATE",
            "public static final int ROOM",
            "public BalanceRounds()",
            "public int area(long,int)",
            "public boolean joined(int,int,boolean)",
            "public int carrier(int,long)",
            "public int know(int,int)",
            "public long solve(long)",
            "public int round(int)",
            "public int changed()",
            "public boolean together(int) throws java.lang.IllegalArgumentException,java.lang.IllegalStateException",
            "public int faults()",
            "public long bound()",
            "public int tooLarge(int)",
            "public boolean exact()");

    public static void main(String[] args) {
        Class<?> face = BalanceRounds.class;
        Check.due("public and final", face.getModifiers(), Modifier.PUBLIC | Modifier.FINAL);
        Check.due("UNKNOWN", BalanceRounds.UNKNOWN, -11);
        Check.due("OUTSIDE", BalanceRounds.OUTSIDE, -12);
        Check.due("STATE", BalanceRounds.STATE, -13);
        Check.due("ROOM", BalanceRounds.ROOM, -14);

        Set<String> found = new TreeSet<>();
        for (Field field : face.getDeclaredFields()) {
            addUnlessHidden(found, field.getModifiers(), field.toGenericString());
        }
        for (Constructor<?> constructor : face.getDeclaredConstructors()) {
            addUnlessHidden(found, constructor.getModifiers(), constructor.toGenericString());
        }
        for (Method method : face.getDeclaredMethods()) {
            addUnlessHidden(found, method.getModifiers(), method.toGenericString());
        }
        for (String member : found) {
            Check.due("may be in the face: " + member, DUE.contains(member), true);
        }
        for (String member : DUE) {
            Check.due("is in the face: " + member, found.contains(member), true);
        }
        noPrivateMethodBearsAPublicName(face.getDeclaredMethods());
        Check.end();
    }

    private static void addUnlessHidden(Set<String> found, int modifiers, String member) {
        if (!Modifier.isPrivate(modifiers)) {
            found.add(member.replace("BalanceRounds.", ""));
        }
    }

    private static void noPrivateMethodBearsAPublicName(Method[] methods) {
        for (Method method : methods) {
            if (Modifier.isPrivate(method.getModifiers())) {
                boolean taken = Arrays.stream(methods).anyMatch(
                        m -> Modifier.isPublic(m.getModifiers()) && m.getName().equals(method.getName()));
                Check.due("bears a public name: " + method, taken, false);
            }
        }
    }
}
