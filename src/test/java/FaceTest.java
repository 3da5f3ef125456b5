import java.lang.reflect.Constructor;
import java.lang.reflect.Field;
import java.lang.reflect.Member;
import java.lang.reflect.Method;
import java.lang.reflect.Modifier;
import java.util.Set;
import java.util.TreeSet;

/** The public face: every member of the document, and no other that is not private. */
final class FaceTest {
    public static void main(String[] args) {
        Check check = new Check("FaceTest");
        Set<String> face = new TreeSet<>();
        for (Method m : CallBook.class.getDeclaredMethods()) {
            add(face, m, m.toGenericString());
        }
        for (Constructor<?> c : CallBook.class.getDeclaredConstructors()) {
            add(face, c, c.toGenericString());
        }
        for (Field f : CallBook.class.getDeclaredFields()) {
            add(face, f, f.toGenericString());
        }
        String both = " throws java.lang.IllegalArgumentException,java.lang.IllegalStateException";
        String argument = " throws java.lang.IllegalArgumentException";
        String state = " throws java.lang.IllegalStateException";
        Set<String> due = new TreeSet<>(Set.of(
                "public static final int CallBook.NONE",
                "public CallBook()",
                "public int CallBook.place(int,boolean,int,int,int,int)" + both,
                "public int CallBook.cancel(int)" + both,
                "public int CallBook.cancelAll(int)" + argument,
                "public boolean CallBook.amend(int,int,int)" + both,
                "public long CallBook.open()" + state,
                "public int CallBook.call()",
                "public int CallBook.band(int,int)" + argument,
                "public long CallBook.clearing(int)" + argument,
                "public int CallBook.order(int,int)" + argument,
                "public int CallBook.at(boolean,int)",
                "public long CallBook.depth(boolean,int,boolean)" + argument,
                "public int CallBook.trade(int,int)",
                "public long CallBook.told(int)",
                "public int CallBook.astray()"));
        for (String member : due) {
            check.due("there is " + member, face.contains(member), true);
        }
        for (String member : face) {
            check.due("the document has " + member, due.contains(member), true);
        }
        int modifiers = CallBook.class.getModifiers();
        check.due("public final", modifiers, Modifier.PUBLIC | Modifier.FINAL);
        check.end();
    }

    private static void add(Set<String> face, Member member, String text) {
        if (!Modifier.isPrivate(member.getModifiers()) && !member.isSynthetic()) {
            face.add(text);
        }
    }
}
