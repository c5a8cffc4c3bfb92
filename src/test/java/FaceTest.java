import java.lang.reflect.Constructor;
import java.lang.reflect.Field;
import java.lang.reflect.Member;
import java.lang.reflect.Method;
import java.lang.reflect.Modifier;
import java.util.ArrayList;
import java.util.Arrays;
import java.util.List;
import java.util.TreeSet;

/** The public face of the document, and nothing else that can be seen from outside. */
public final class FaceTest {
    private static final String[] FACE = {
        "public final class WaveRows",
        "public static final int WaveRows.NONE",
        "public WaveRows(int,int)",
        "public void WaveRows.element(long,long)"
            + " throws java.lang.IllegalArgumentException,java.lang.IllegalStateException",
        "public int WaveRows.drop()",
        "public int WaveRows.assign(int,int,long) throws java.lang.IndexOutOfBoundsException,"
            + "java.lang.IllegalStateException,java.lang.IllegalArgumentException",
        "public int WaveRows.start(int,long) throws java.lang.IndexOutOfBoundsException",
        "public int WaveRows.advance(long) throws java.lang.IllegalArgumentException",
        "public int WaveRows.active(int)",
        "public long WaveRows.now()",
        "public long WaveRows.next()",
        "public long WaveRows.value(int) throws java.lang.IndexOutOfBoundsException",
        "public int WaveRows.count(int) throws java.lang.IndexOutOfBoundsException",
        "public long WaveRows.at(int,int,boolean) throws java.lang.IndexOutOfBoundsException",
        "public long WaveRows.projected(int,long)"
            + " throws java.lang.IndexOutOfBoundsException,java.lang.IllegalArgumentException",
        "public int WaveRows.total()",
    };

    public static void main(String[] args) {
        TreeSet<String> want = new TreeSet<>(Arrays.asList(FACE));
        TreeSet<String> got = new TreeSet<>();
        got.add(Modifier.toString(WaveRows.class.getModifiers()) + " class " + WaveRows.class.getName());
        for (Member member : members()) {
            if (!Modifier.isPrivate(member.getModifiers())) {
                got.add(member.toString().startsWith("public") ? generic(member) : "hidden " + member);
            }
        }
        Check.same("the face", String.join("\n", want), String.join("\n", got));
        Check.due("NONE", -1, () -> WaveRows.NONE);
        noPrivateMethodBearsAPublicName();
        Check.end("FaceTest");
    }

    private static List<Member> members() {
        List<Member> all = new ArrayList<>();
        all.addAll(Arrays.asList(WaveRows.class.getDeclaredFields()));
        all.addAll(Arrays.asList(WaveRows.class.getDeclaredConstructors()));
        all.addAll(Arrays.asList(WaveRows.class.getDeclaredMethods()));
        return all;
    }

    private static String generic(Member member) {
        if (member instanceof Field field) {
            return field.toGenericString();
        }
        if (member instanceof Constructor<?> constructor) {
            return constructor.toString();
        }
        return ((Method) member).toString();
    }

    private static void noPrivateMethodBearsAPublicName() {
        TreeSet<String> open = new TreeSet<>();
        for (Method method : WaveRows.class.getMethods()) {
            open.add(method.getName());
        }
        for (Method method : WaveRows.class.getDeclaredMethods()) {
            if (Modifier.isPrivate(method.getModifiers())) {
                Check.same("private " + method.getName(), "false", "" + open.contains(method.getName()));
            }
        }
    }
}
