import java.lang.reflect.Constructor;
import java.lang.reflect.Field;
import java.lang.reflect.Method;
import java.lang.reflect.Modifier;
import java.util.Arrays;
import java.util.TreeSet;

/** The public face: what the document names, and nothing else that is not private. */
public final class FaceTest {
    private static final String[] FACE = {
        "public static final int NONE",
        "public BackSteps(int,int)",
        "public int program(int,int) throws IndexOutOfBoundsException",
        "public int input(int) throws UnsupportedOperationException",
        "public int poke(int,int) throws IndexOutOfBoundsException",
        "public int step(int) throws IllegalArgumentException",
        "public int back(int) throws IllegalArgumentException",
        "public int look(int,int) throws IllegalArgumentException,IndexOutOfBoundsException",
        "public int wrote(int) throws IndexOutOfBoundsException",
        "public int when(int,int,int) throws IllegalArgumentException,IndexOutOfBoundsException",
        "public int replay()",
        "public int cost(int) throws IllegalArgumentException",
        "public int count(int)",
    };

    private static String plain(String text) {
        return text.replace("java.lang.", "").replace("BackSteps.", "");
    }

    public static void main(String[] args) {
        Due due = new Due("FaceTest");
        TreeSet<String> found = new TreeSet<>();
        TreeSet<String> publics = new TreeSet<>();
        for (Field f : BackSteps.class.getDeclaredFields()) {
            if (!Modifier.isPrivate(f.getModifiers())) {
                found.add(plain(f.toString()));
            }
        }
        for (Constructor<?> c : BackSteps.class.getDeclaredConstructors()) {
            found.add(plain(c.toString()));
        }
        for (Method m : BackSteps.class.getDeclaredMethods()) {
            if (!Modifier.isPrivate(m.getModifiers())) {
                found.add(plain(m.toString()));
                publics.add(m.getName());
            }
        }
        TreeSet<String> want = new TreeSet<>(Arrays.asList(FACE));
        if (!found.equals(want)) {
            System.out.println("found " + found);
        }
        due.is("the face is the document's", found.equals(want) ? 1 : 0, 1);
        due.is("the class is final", Modifier.isFinal(BackSteps.class.getModifiers()) ? 1 : 0, 1);
        due.is("NONE", BackSteps.NONE, -1);
        for (Method m : BackSteps.class.getDeclaredMethods()) {
            boolean bears = Modifier.isPrivate(m.getModifiers()) && publics.contains(m.getName());
            due.is("private " + m.getName() + " bears a public name", bears ? 1 : 0, 0);
        }
        for (Class<?> c : BackSteps.class.getDeclaredClasses()) {
            due.is(c.getName() + " is static", Modifier.isStatic(c.getModifiers()) ? 1 : 0, 1);
            due.is(c.getName() + " is public", Modifier.isPublic(c.getModifiers()) ? 1 : 0, 0);
            for (Method m : c.getDeclaredMethods()) {
                due.is(c.getName() + " has " + m.getName(), publics.contains(m.getName()) ? 1 : 0, 0);
            }
        }
        due.end();
    }
}
