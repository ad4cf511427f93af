import java.lang.reflect.Constructor;
import java.lang.reflect.Field;
import java.lang.reflect.Member;
import java.lang.reflect.Method;
import java.lang.reflect.Modifier;
import java.util.ArrayList;
import java.util.List;
import java.util.TreeSet;

/** The public face is the document's, and nothing else of the class can be seen from outside. */
public final class FaceTest {
    private static final String[] FACE = {
        "public WideCounts()",
        "public int WideCounts.value(long)",
        "public int WideCounts.add(int,int) throws java.lang.ArrayIndexOutOfBoundsException",
        "public int WideCounts.times(int,int) throws java.lang.ArrayIndexOutOfBoundsException",
        "public int WideCounts.over(int,int) throws java.lang.ArrayIndexOutOfBoundsException,java.lang.ArithmeticException",
        "public int WideCounts.power(int,int) throws java.lang.ArrayIndexOutOfBoundsException",
        "public int WideCounts.binomial(int,int)",
        "public int WideCounts.factorial(int)",
        "public int WideCounts.order(int,int) throws java.lang.ArrayIndexOutOfBoundsException",
        "public int WideCounts.digit(int,int) throws java.lang.ArrayIndexOutOfBoundsException",
        "public boolean WideCounts.entry(int,int,long)",
        "public int WideCounts.determinant(int)",
        "public long WideCounts.residue(int,long) throws java.lang.ArrayIndexOutOfBoundsException,java.lang.ArithmeticException",
        "public int WideCounts.kept()"
    };

    public static void main(String[] args) {
        Tally tally = new Tally("FaceTest");
        TreeSet<String> seen = new TreeSet<>();
        for (Member member : members()) {
            if (!Modifier.isPrivate(member.getModifiers())) {
                seen.add(member.toString());
            }
        }
        for (String line : FACE) {
            tally.truth("the face has " + line, seen.remove(line), true);
        }
        for (String line : seen) {
            tally.truth("the face has " + line, true, false);
        }
        int modifiers = WideCounts.class.getModifiers();
        tally.truth("the class is public and final", Modifier.isPublic(modifiers) && Modifier.isFinal(modifiers), true);
        classesInside(tally);
        privateNames(tally);
        tally.end();
    }

    private static void classesInside(Tally tally) {
        for (Class<?> inside : WideCounts.class.getDeclaredClasses()) {
            int modifiers = inside.getModifiers();
            boolean hidden = !Modifier.isPublic(modifiers) && !Modifier.isProtected(modifiers);
            tally.truth(inside.getName() + " is static and not for others", hidden && Modifier.isStatic(modifiers), true);
        }
    }

    private static void privateNames(Tally tally) {
        TreeSet<String> open = new TreeSet<>();
        for (Method method : WideCounts.class.getDeclaredMethods()) {
            if (Modifier.isPublic(method.getModifiers())) {
                open.add(method.getName());
            }
        }
        for (Method method : WideCounts.class.getDeclaredMethods()) {
            if (Modifier.isPrivate(method.getModifiers())) {
                tally.truth(method.getName() + " is the name of a public method too", open.contains(method.getName()), false);
            }
        }
    }

    private static List<Member> members() {
        List<Member> members = new ArrayList<>();
        for (Constructor<?> constructor : WideCounts.class.getDeclaredConstructors()) {
            members.add(constructor);
        }
        for (Method method : WideCounts.class.getDeclaredMethods()) {
            members.add(method);
        }
        for (Field field : WideCounts.class.getDeclaredFields()) {
            members.add(field);
        }
        return members;
    }
}
