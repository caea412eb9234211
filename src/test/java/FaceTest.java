import java.lang.reflect.Constructor;
import java.lang.reflect.Field;
import java.lang.reflect.Member;
import java.lang.reflect.Method;
import java.lang.reflect.Modifier;
import java.util.Set;
import java.util.TreeSet;

/** The public face is the document's, and nothing else can be seen from outside. */
final class FaceTest {
    private static final Set<String> FACE = Set.of(
        "public static final int ThreadSlots.NONE",
        "public ThreadSlots(int,int)",
        "public int ThreadSlots.rule(int) throws java.lang.IllegalArgumentException",
        "public int ThreadSlots.bound(int) throws java.lang.IllegalArgumentException",
        "public int ThreadSlots.cost(int) throws java.lang.IllegalArgumentException",
        "public boolean ThreadSlots.ready(int,boolean) throws java.lang.IndexOutOfBoundsException",
        "public int ThreadSlots.rank(int,int) throws java.lang.IndexOutOfBoundsException,java.lang.IllegalArgumentException",
        "public int ThreadSlots.sleep(int,int) throws java.lang.IndexOutOfBoundsException,java.lang.IllegalArgumentException",
        "public int ThreadSlots.miss(int) throws java.lang.IndexOutOfBoundsException",
        "public int ThreadSlots.cycle()",
        "public int ThreadSlots.run(int) throws java.lang.IllegalArgumentException",
        "public int ThreadSlots.part(int,int,int) throws java.lang.IndexOutOfBoundsException,java.lang.IllegalArgumentException",
        "public int ThreadSlots.put(int,int,int) throws java.lang.IndexOutOfBoundsException",
        "public int ThreadSlots.take(int,int) throws java.lang.IndexOutOfBoundsException,java.lang.IllegalStateException",
        "public int ThreadSlots.entry(int,int,int) throws java.lang.IndexOutOfBoundsException",
        "public int ThreadSlots.set(int,int) throws java.lang.IndexOutOfBoundsException",
        "public int ThreadSlots.register(int,int) throws java.lang.IndexOutOfBoundsException",
        "public int ThreadSlots.thread(int,int) throws java.lang.IndexOutOfBoundsException",
        "public int ThreadSlots.share(int,int) throws java.lang.IndexOutOfBoundsException",
        "public int ThreadSlots.count(int)");

    public static void main(String[] args) {
        Set<String> seen = new TreeSet<>();
        Set<String> names = new TreeSet<>();
        for (Field f : ThreadSlots.class.getDeclaredFields()) {
            addIfSeen(seen, f, f.toGenericString());
        }
        for (Constructor<?> c : ThreadSlots.class.getDeclaredConstructors()) {
            addIfSeen(seen, c, c.toGenericString());
        }
        for (Method m : ThreadSlots.class.getDeclaredMethods()) {
            addIfSeen(seen, m, m.toGenericString());
            Check.same("a second method named " + m.getName(), names.add(m.getName()), true);
        }
        Check.same("the face", seen, new TreeSet<>(FACE));
        Check.same("final", Modifier.isFinal(ThreadSlots.class.getModifiers()), true);
        Check.same("NONE", ThreadSlots.NONE, -1);
        checkInnerMethods(names);
        Check.end("FaceTest");
    }

    private static void addIfSeen(Set<String> seen, Member member, String text) {
        if (!Modifier.isPrivate(member.getModifiers()) && !member.isSynthetic()) {
            seen.add(text);
        }
    }

    private static void checkInnerMethods(Set<String> names) {
        for (Class<?> inner : ThreadSlots.class.getDeclaredClasses()) {
            for (Method m : inner.getDeclaredMethods()) {
                Check.same("a name of " + inner + " taken twice: " + m.getName(), names.contains(m.getName()), false);
            }
        }
    }
}
