import java.lang.reflect.Constructor;
import java.lang.reflect.Field;
import java.lang.reflect.Method;
import java.lang.reflect.Modifier;
import java.util.ArrayList;
import java.util.Arrays;
import java.util.Collections;
import java.util.List;

/** The public face: what the document lists, and nothing else that is not private. */
final class FaceTest {
    private static final String[] METHODS = {
        "public boolean SkewFind.at(int,int) throws java.lang.IndexOutOfBoundsException",
        "public boolean SkewFind.sure() throws java.lang.IllegalStateException",
        "public boolean SkewFind.upside()",
        "public double SkewFind.mean() throws java.lang.IllegalStateException",
        "public double SkewFind.sum(int) throws java.lang.IllegalArgumentException",
        "public int SkewFind.angle(int) throws java.lang.IllegalArgumentException",
        "public int SkewFind.back()",
        "public int SkewFind.band(int,int) throws java.lang.IndexOutOfBoundsException",
        "public int SkewFind.bands()",
        "public int SkewFind.crop(int) throws java.lang.IndexOutOfBoundsException",
        "public int SkewFind.line(int,double) throws "
            + "java.lang.IndexOutOfBoundsException,java.lang.IllegalArgumentException",
        "public int SkewFind.put(int,int,int,boolean) throws "
            + "java.lang.IndexOutOfBoundsException,java.lang.IllegalArgumentException",
        "public int SkewFind.size(int) throws java.lang.IndexOutOfBoundsException",
        "public int SkewFind.told(int)",
        "public int SkewFind.turn(int,boolean) throws "
            + "java.lang.IllegalArgumentException,java.lang.UnsupportedOperationException",
        "public void SkewFind.clear()",
    };

    public static void main(String[] args) throws Exception {
        Check.due("NONE", -1, SkewFind.NONE);
        Check.due("the class", Modifier.PUBLIC | Modifier.FINAL, SkewFind.class.getModifiers());
        dueMethods();
        dueConstructorsAndFields();
        dueNoSharedNames();
        Check.end();
    }

    private static void dueMethods() {
        List<String> seen = new ArrayList<>();
        for (Method method : SkewFind.class.getDeclaredMethods()) {
            if (!Modifier.isPrivate(method.getModifiers()) && !method.isSynthetic()) {
                seen.add(method.toString());
            }
        }
        Collections.sort(seen);
        Check.due("the methods", Arrays.asList(METHODS), seen);
    }

    private static void dueConstructorsAndFields() {
        List<String> seen = new ArrayList<>();
        for (Constructor<?> made : SkewFind.class.getDeclaredConstructors()) {
            seen.add(made.toString());
        }
        for (Field field : SkewFind.class.getDeclaredFields()) {
            if (!Modifier.isPrivate(field.getModifiers())) {
                seen.add(field.toString());
            }
        }
        Check.due("the constructor and the constant",
            Arrays.asList("public SkewFind(int,int)", "public static final int SkewFind.NONE"), seen);
    }

    private static void dueNoSharedNames() {
        List<String> open = new ArrayList<>();
        for (Method method : SkewFind.class.getMethods()) {
            open.add(method.getName());
        }
        List<Method> inner = new ArrayList<>(Arrays.asList(SkewFind.class.getDeclaredMethods()));
        for (Class<?> nested : SkewFind.class.getDeclaredClasses()) {
            inner.addAll(Arrays.asList(nested.getDeclaredMethods()));
        }
        for (Method method : inner) {
            boolean hidden = !Modifier.isPublic(method.getModifiers());
            Check.due("shares a public name: " + method, false, hidden && open.contains(method.getName()));
        }
    }
}
