import java.lang.reflect.Constructor;
import java.lang.reflect.Field;
import java.lang.reflect.Method;
import java.lang.reflect.Modifier;
import java.util.TreeSet;

/** The class has the document's face and no other member that can be seen from outside. */
public final class FaceTest {
    private static final String[] FACE = {
        "public static final int ContentsFinder.NONE",
        "public ContentsFinder()",
        "public boolean ContentsFinder.book(int)",
        "public boolean ContentsFinder.read(int,int)",
        "public int ContentsFinder.line(int,int,int,boolean,int,int,int)",
        "public boolean ContentsFinder.right(int,int,int)",
        "public int ContentsFinder.drop()",
        "public int ContentsFinder.price(int,int)",
        "public int ContentsFinder.want(int,int)",
        "public int ContentsFinder.count(int)",
        "public int ContentsFinder.of(int,int) throws java.util.NoSuchElementException",
        "public int ContentsFinder.counter(int,int)",
        "public int ContentsFinder.entry(int,int,int,int)",
        "public int ContentsFinder.clear()",
        "public int ContentsFinder.partner(int)",
        "public int ContentsFinder.shift(int) throws java.util.NoSuchElementException",
        "public int ContentsFinder.span(int)",
        "public int ContentsFinder.wrong(int)",
    };

    private FaceTest() {
    }

    public static void main(String[] args) {
        TreeSet<String> due = new TreeSet<>();
        for (String member : FACE) {
            due.add(member);
        }
        TreeSet<String> seen = seenMembers();
        boolean isFinal = Modifier.isFinal(ContentsFinder.class.getModifiers());
        if (!seen.equals(due) || !isFinal) {
            System.out.println("the face is " + seen + ", due is " + due + (isFinal ? "" : "; the class is not final"));
            System.exit(1);
        }
        System.out.println("the face is as due");
    }

    private static TreeSet<String> seenMembers() {
        TreeSet<String> seen = new TreeSet<>();
        for (Field f : ContentsFinder.class.getDeclaredFields()) {
            if (!Modifier.isPrivate(f.getModifiers()) && !f.isSynthetic()) {
                seen.add(f.toString());
            }
        }
        for (Method m : ContentsFinder.class.getDeclaredMethods()) {
            if (!Modifier.isPrivate(m.getModifiers()) && !m.isSynthetic()) {
                seen.add(m.toString());
            }
        }
        for (Constructor<?> c : ContentsFinder.class.getDeclaredConstructors()) {
            seen.add(c.toString());
        }
        return seen;
    }
}
