import java.lang.reflect.Constructor;
import java.lang.reflect.Field;
import java.lang.reflect.Method;
import java.lang.reflect.Modifier;
import java.util.Arrays;
import java.util.TreeSet;

/** The class has the document's face, and nothing else of it can be seen from outside. */
public final class FaceTest {
    private static final String[] FACE = {
        "public static final int SegmentKernel.NONE",
        "public SegmentKernel()",
        "public boolean SegmentKernel.task(int,int,int,int)",
        "public boolean SegmentKernel.segment(int,int)",
        "public void SegmentKernel.clear()",
        "public void SegmentKernel.reset()",
        "public int SegmentKernel.about(int,int)",
        "public int SegmentKernel.admit() throws java.lang.IllegalStateException",
        "public int SegmentKernel.response(int) throws java.lang.IndexOutOfBoundsException,"
            + "java.lang.IllegalStateException,java.lang.ArithmeticException",
        "public int SegmentKernel.job(int,int) throws java.lang.IndexOutOfBoundsException,"
            + "java.lang.IllegalStateException,java.lang.ArithmeticException",
        "public int SegmentKernel.tolerance(int) throws java.lang.IndexOutOfBoundsException,"
            + "java.lang.IllegalStateException",
        "public int SegmentKernel.stretch() throws java.lang.IllegalStateException",
        "public int SegmentKernel.scenario(int,int,int) throws java.lang.IndexOutOfBoundsException,"
            + "java.lang.IllegalStateException,java.lang.ArithmeticException",
        "public boolean SegmentKernel.arrive(int)",
        "public int SegmentKernel.tick(int) throws java.lang.IllegalArgumentException",
        "public int SegmentKernel.now()",
        "public int SegmentKernel.ended(int,int)",
        "public int SegmentKernel.seen(int,int)",
    };

    public static void main(String[] args) {
        TreeSet<String> seen = new TreeSet<>();
        for (Constructor<?> c : SegmentKernel.class.getDeclaredConstructors()) {
            note(seen, c.getModifiers(), c.toGenericString());
        }
        for (Method m : SegmentKernel.class.getDeclaredMethods()) {
            note(seen, m.getModifiers(), m.toGenericString());
        }
        for (Field f : SegmentKernel.class.getDeclaredFields()) {
            note(seen, f.getModifiers(), f.toGenericString());
        }
        boolean right = seen.equals(new TreeSet<>(Arrays.asList(FACE)));
        int outer = SegmentKernel.class.getModifiers();
        right &= Modifier.isPublic(outer) && Modifier.isFinal(outer) && SegmentKernel.NONE == -1;
        for (Class<?> inner : SegmentKernel.class.getDeclaredClasses()) {
            int m = inner.getModifiers();
            right &= Modifier.isStatic(m) && !Modifier.isPublic(m) && !Modifier.isProtected(m);
        }
        if (!right) {
            System.out.println("the face is not the document's:\n" + String.join("\n", seen));
            System.exit(1);
        }
        System.out.println("the face is the document's");
    }

    private static void note(TreeSet<String> seen, int modifiers, String text) {
        if (!Modifier.isPrivate(modifiers)) {
            seen.add(text);
        }
    }
}
