import java.lang.reflect.Constructor;
import java.lang.reflect.Field;
import java.lang.reflect.Method;
import java.lang.reflect.Modifier;
import java.util.TreeSet;

/** The public face is the document's, nothing more can be seen, and the classes inside are as they may be. */
public final class FaceTest {
    public static void main(String[] args) {
        TreeSet<String> seen = new TreeSet<>();
        for (Method m : TestFinder.class.getDeclaredMethods()) {
            if (!Modifier.isPrivate(m.getModifiers())) {
                seen.add(m.toString());
            }
        }
        for (Field f : TestFinder.class.getDeclaredFields()) {
            if (!Modifier.isPrivate(f.getModifiers())) {
                seen.add(f.toString());
            }
        }
        for (Constructor<?> c : TestFinder.class.getDeclaredConstructors()) {
            if (!Modifier.isPrivate(c.getModifiers())) {
                seen.add(c.toString());
            }
        }
        TreeSet<String> want = new TreeSet<>();
        want.add("public static final int TestFinder.NONE");
        want.add("public TestFinder()");
        want.add("public boolean TestFinder.text(long)");
        want.add("public int TestFinder.script()");
        want.add("public int TestFinder.count(int)");
        want.add("public int TestFinder.test(int,int)");
        want.add("public int TestFinder.letter(int,int)");
        want.add("public int TestFinder.reason(int,int)");
        want.add("public int TestFinder.find()");
        want.add("public int TestFinder.filter()");
        want.add("public boolean TestFinder.passes(int)");
        want.add("public int TestFinder.passing()");
        want.add("public int TestFinder.judge(int,boolean)");
        Checks.due("the face", want.toString(), seen.toString());
        Checks.due("final", true, Modifier.isFinal(TestFinder.class.getModifiers()));
        Checks.due("NONE", -1, TestFinder.NONE);
        Checks.due("no package", "", TestFinder.class.getPackageName());
        classesInside();
        Checks.end();
    }

    private static void classesInside() {
        Checks.sentence("LANGUAGE.md, rules 1, 5 and 11");
        Class<?>[] inside = TestFinder.class.getDeclaredClasses();
        Checks.due("at most some twelve classes", true, 1 + inside.length <= 12);
        for (Class<?> c : inside) {
            int modifiers = c.getModifiers();
            String name = c.getSimpleName();
            Checks.due(name + " static", true, Modifier.isStatic(modifiers));
            Checks.due(name + " seen", false, Modifier.isPublic(modifiers) || Modifier.isProtected(modifiers));
            for (Field f : c.getDeclaredFields()) {
                boolean state = Modifier.isStatic(f.getModifiers()) && !Modifier.isFinal(f.getModifiers());
                Checks.due(f + " is static state", false, state);
            }
            for (Method m : c.getDeclaredMethods()) {
                Checks.due(m + " has a name of the face", false, isOfTheFace(m.getName()));
                Checks.due(m + " has more than seven parameters", false, m.getParameterCount() > 7);
            }
        }
    }

    private static boolean isOfTheFace(String name) {
        for (Method m : TestFinder.class.getDeclaredMethods()) {
            if (Modifier.isPublic(m.getModifiers()) && m.getName().equals(name)) {
                return true;
            }
        }
        return false;
    }
}
