import java.lang.reflect.Constructor;
import java.lang.reflect.Field;
import java.lang.reflect.Method;
import java.lang.reflect.Modifier;
import java.util.ArrayList;
import java.util.Arrays;
import java.util.Collections;
import java.util.List;
import java.util.stream.Collectors;
import java.util.stream.Stream;

/** The document's chapter "The public face": it is there as it is written, and nothing else can be seen. */
public final class PublicFaceTest {
    private static final Checks C = new Checks("PublicFaceTest");

    private static final String[] FACE = {
        "public static final int NONE",
        "public TrunkCells()",
        "public void keys(int, int, int) throws IndexOutOfBoundsException",
        "public void group(int, int) throws IndexOutOfBoundsException",
        "public void member(int, int) throws IndexOutOfBoundsException",
        "public void move(int, int) throws IndexOutOfBoundsException",
        "public void register(int) throws IndexOutOfBoundsException, IllegalStateException",
        "public void press(int, int, int) throws IndexOutOfBoundsException, IllegalStateException",
        "public void release(int) throws IndexOutOfBoundsException",
        "public void send(int, int, int) throws IndexOutOfBoundsException, IllegalStateException",
        "public void speak(int, int) throws IndexOutOfBoundsException",
        "public void draw(int, int) throws IndexOutOfBoundsException, IllegalArgumentException, IllegalStateException",
        "public void fault(int, long) throws IndexOutOfBoundsException",
        "public int tick(int) throws IllegalArgumentException",
        "public int mobile(int, int)",
        "public int call(int, int)",
        "public int waiting(int, int)",
        "public int saying(int, int)",
        "public long coded(int, int)",
        "public int decoded(long, int)",
        "public int distance(long, int)",
    };

    public static void main(String[] args) {
        classIsPublicAndFinal();
        membersThatAreNotPrivateAreTheFace();
        classesInsideAreStaticAndNotPublic();
        noPrivateMethodBearsAPublicName();
        C.end();
    }

    private static void classIsPublicAndFinal() {
        C.due("public final class", TrunkCells.class.getModifiers(), Modifier.PUBLIC | Modifier.FINAL);
        C.due("package", TrunkCells.class.getPackageName().length(), 0);
        C.due("no class above", TrunkCells.class.getSuperclass() == Object.class ? 1 : 0, 1);
        C.due("interfaces", TrunkCells.class.getInterfaces().length, 0);
    }

    private static void membersThatAreNotPrivateAreTheFace() {
        List<String> seen = seenMembers();
        List<String> due = new ArrayList<>(Arrays.asList(FACE));
        for (String member : seen) {
            C.due("in the face: " + member, due.contains(member) ? 1 : 0, 1);
        }
        for (String member : due) {
            C.due("there once: " + member, Collections.frequency(seen, member), 1);
        }
    }

    private static List<String> seenMembers() {
        List<String> seen = new ArrayList<>();
        for (Field field : TrunkCells.class.getDeclaredFields()) {
            if (isSeen(field.getModifiers(), field.isSynthetic())) {
                seen.add(Modifier.toString(field.getModifiers()) + " " + field.getType().getSimpleName() + " "
                        + field.getName());
            }
        }
        for (Constructor<?> made : TrunkCells.class.getDeclaredConstructors()) {
            if (isSeen(made.getModifiers(), made.isSynthetic())) {
                seen.add(Modifier.toString(made.getModifiers()) + " TrunkCells("
                        + names(made.getParameterTypes()) + ")" + thrown(made.getExceptionTypes()));
            }
        }
        for (Method method : TrunkCells.class.getDeclaredMethods()) {
            if (isSeen(method.getModifiers(), method.isSynthetic())) {
                seen.add(Modifier.toString(method.getModifiers()) + " " + method.getReturnType().getSimpleName() + " "
                        + method.getName() + "(" + names(method.getParameterTypes()) + ")"
                        + thrown(method.getExceptionTypes()));
            }
        }
        return seen;
    }

    private static boolean isSeen(int modifiers, boolean isSynthetic) {
        return !Modifier.isPrivate(modifiers) && !isSynthetic;
    }

    private static String names(Class<?>[] types) {
        return Stream.of(types).map(Class::getSimpleName).collect(Collectors.joining(", "));
    }

    private static String thrown(Class<?>[] types) {
        return types.length == 0 ? "" : " throws " + names(types);
    }

    private static void classesInsideAreStaticAndNotPublic() {
        for (Class<?> inside : TrunkCells.class.getDeclaredClasses()) {
            int modifiers = inside.getModifiers();
            C.due(inside.getName() + " is static", Modifier.isStatic(modifiers) ? 1 : 0, 1);
            C.due(inside.getName() + " is public or protected",
                    modifiers & (Modifier.PUBLIC | Modifier.PROTECTED), 0);
        }
    }

    private static void noPrivateMethodBearsAPublicName() {
        for (Method hidden : TrunkCells.class.getDeclaredMethods()) {
            for (Method open : TrunkCells.class.getMethods()) {
                if (Modifier.isPrivate(hidden.getModifiers()) && hidden.getName().equals(open.getName())) {
                    C.due("private methods named " + hidden.getName(), 1, 0);
                }
            }
        }
    }
}
