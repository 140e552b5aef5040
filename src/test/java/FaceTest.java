import java.lang.reflect.Constructor;
import java.lang.reflect.Field;
import java.lang.reflect.Method;
import java.lang.reflect.Modifier;
import java.util.TreeSet;

/** The public face is the document's, and nothing more can be seen. */
public final class FaceTest {
    public static void main(String[] args) {
        TreeSet<String> seen = new TreeSet<>();
        for (Method m : TestFinder.class.getDeclaredMethods()) {
            if (!Modifier.isPrivate(m.getModifiers())) {
                seen.add(m.toString());
            }
        }
        for (Field f : TestFinder.class.getDeclaredFields()) {
            if (!Modifier.isPrivate(f.getModifiers())) {
                seen.add(f.toString());
            }
        }
        for (Constructor<?> c : TestFinder.class.getDeclaredConstructors()) {
            if (!Modifier.isPrivate(c.getModifiers())) {
                seen.add(c.toString());
            }
        }
        TreeSet<String> want = new TreeSet<>();
        want.add("public static final int TestFinder.NONE");
        want.add("public TestFinder()");
        want.add("public boolean TestFinder.text(long)");
        want.add("public int TestFinder.script()");
        want.add("public int TestFinder.count(int)");
        want.add("public int TestFinder.test(int,int)");
        want.add("public int TestFinder.letter(int,int)");
        want.add("public int TestFinder.reason(int,int)");
        want.add("public int TestFinder.find()");
        want.add("public int TestFinder.filter()");
        want.add("public boolean TestFinder.passes(int)");
        want.add("public int TestFinder.passing()");
        want.add("public int TestFinder.judge(int,boolean)");
        Checks.due("the face", want.toString(), seen.toString());
        Checks.due("final", true, Modifier.isFinal(TestFinder.class.getModifiers()));
        Checks.due("NONE", -1, TestFinder.NONE);
        Checks.end();
    }
}
