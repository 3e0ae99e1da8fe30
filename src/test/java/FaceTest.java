import java.lang.reflect.Constructor;
import java.lang.reflect.Field;
import java.lang.reflect.Member;
import java.lang.reflect.Method;
import java.lang.reflect.Modifier;
import java.util.TreeSet;

/** The class has just the members that the document's face has. */
public final class FaceTest {
    private static final String[] FACE = {
        "public static final int BlockLog.NONE",
        "public BlockLog()",
        "public int BlockLog.put(int,int) throws java.lang.IllegalArgumentException,java.lang.UnsupportedOperationException",
        "public int BlockLog.set(int) throws java.lang.IllegalArgumentException,java.lang.UnsupportedOperationException",
        "public int BlockLog.drop(int) throws java.lang.IllegalArgumentException,java.lang.UnsupportedOperationException",
        "public void BlockLog.forget()",
        "public int BlockLog.commit() throws java.lang.UnsupportedOperationException",
        "public int BlockLog.crash(int,int) throws java.lang.IllegalArgumentException,java.lang.UnsupportedOperationException",
        "public void BlockLog.spoil(int,int) throws java.lang.IndexOutOfBoundsException",
        "public int BlockLog.size(int) throws java.lang.IllegalArgumentException",
        "public int BlockLog.get(int,int) throws java.lang.IllegalArgumentException,java.util.NoSuchElementException",
        "public int BlockLog.disk(int) throws java.lang.IndexOutOfBoundsException",
        "public int BlockLog.about(int) throws java.lang.IllegalArgumentException",
    };

    public static void main(String[] args) {
        TreeSet<String> got = new TreeSet<>();
        TreeSet<String> privateNames = new TreeSet<>();
        TreeSet<String> publicNames = new TreeSet<>();
        for (Field f : BlockLog.class.getDeclaredFields()) {
            note(f, f.toString(), got);
        }
        for (Constructor<?> c : BlockLog.class.getDeclaredConstructors()) {
            note(c, c.toString(), got);
        }
        for (Method m : BlockLog.class.getDeclaredMethods()) {
            note(m, m.toString(), got);
            (Modifier.isPrivate(m.getModifiers()) ? privateNames : publicNames).add(m.getName());
        }
        TreeSet<String> want = new TreeSet<>(java.util.List.of(FACE));
        Check.due("the face", got.toString(), want.toString());
        privateNames.retainAll(publicNames);
        Check.due("private methods with a public one's name", privateNames.toString(), "[]");
        Check.due("the class's modifiers", Modifier.toString(BlockLog.class.getModifiers()), "public final");
        Check.due("NONE", BlockLog.NONE, -1);
        Check.end();
    }

    private static void note(Member member, String text, TreeSet<String> into) {
        if (!Modifier.isPrivate(member.getModifiers())) {
            into.add(text);
        }
    }
}
