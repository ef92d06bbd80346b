import java.lang.reflect.Constructor;
import java.lang.reflect.Field;
import java.lang.reflect.Member;
import java.lang.reflect.Method;
import java.lang.reflect.Modifier;
import java.util.ArrayList;
import java.util.Arrays;
import java.util.List;
import java.util.TreeSet;

/** The document's face, and no other member that can be seen. */
final class FaceTest {
    private static final List<String> FACE = List.of(
            "HouseFunctions(long)",
            "NONE",
            "int drawn(long, int)",
            "int row(int, int, int) IllegalArgumentException IllegalStateException",
            "int table() IllegalStateException",
            "long angle(int, int) IllegalArgumentException",
            "long at(int, int) IllegalArgumentException",
            "long cosine(int) IllegalArgumentException",
            "long damp(int, int) IllegalArgumentException",
            "long dew(int) IllegalArgumentException",
            "long join(int, int, int) IllegalArgumentException",
            "long logarithm(long) IllegalArgumentException",
            "long power(int) IllegalArgumentException",
            "long root(long, int) IllegalArgumentException",
            "long sine(int) IllegalArgumentException");

    public static void main(String[] args) {
        Check check = new Check();
        TreeSet<String> seen = new TreeSet<>();
        for (Member member : members()) {
            if (member.isSynthetic() || Modifier.isPrivate(member.getModifiers())) {
                continue;
            }
            check.due(member.getName() + " is public", member.getModifiers() & Modifier.PUBLIC, Modifier.PUBLIC);
            seen.add(textOf(member));
        }
        if (!seen.equals(new TreeSet<>(FACE))) {
            System.out.println("the face is " + seen);
        }
        check.due("the face is the document's", seen.equals(new TreeSet<>(FACE)) ? 1 : 0, 1);
        int modifiers = HouseFunctions.class.getModifiers();
        check.due("the class is public and final",
                modifiers & (Modifier.PUBLIC | Modifier.FINAL), Modifier.PUBLIC | Modifier.FINAL);
        check.due("NONE", HouseFunctions.NONE, Long.MIN_VALUE);
        check.end();
    }

    private static List<Member> members() {
        List<Member> members = new ArrayList<>();
        members.addAll(Arrays.asList(HouseFunctions.class.getDeclaredConstructors()));
        members.addAll(Arrays.asList(HouseFunctions.class.getDeclaredMethods()));
        members.addAll(Arrays.asList(HouseFunctions.class.getDeclaredFields()));
        return members;
    }

    private static String textOf(Member member) {
        if (member instanceof Field) {
            return member.getName();
        }
        if (member instanceof Constructor<?> made) {
            return made.getName() + "(" + namesOf(made.getParameterTypes(), ", ") + ")";
        }
        Method method = (Method) member;
        String thrown = namesOf(method.getExceptionTypes(), " ");
        return method.getReturnType() + " " + method.getName()
                + "(" + namesOf(method.getParameterTypes(), ", ") + ")"
                + (thrown.isEmpty() ? "" : " " + thrown);
    }

    private static String namesOf(Class<?>[] types, String between) {
        List<String> names = new ArrayList<>();
        for (Class<?> type : types) {
            names.add(type.getSimpleName());
        }
        return String.join(between, names);
    }
}
