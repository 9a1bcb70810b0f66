import java.lang.reflect.Constructor;
import java.lang.reflect.Field;
import java.lang.reflect.Method;
import java.lang.reflect.Modifier;
import java.util.Arrays;
import java.util.NoSuchElementException;
import java.util.Set;
import java.util.TreeSet;

/** The public face is the document's, and nothing else can be seen from outside (LANGUAGE.md, rules 1 and 5). */
public final class FaceTest {
    private static final String[] FACE = {
        "int sign(int)", "boolean end(int)", "int people()", "int wants()", "int rule()", "int one(int,int)",
        "int sheet(int,int,int,int)", "int mornings(int)", "int wishes(int,int)", "int pills(int,int)",
        "int learns(int,int)", "int leaves(int)", "int week()", "int undo()", "int wakes()", "int later(int,int)",
        "int when(int)", "int quiet()", "int runs(int,int)", "int each()", "int busiest(int)", "int serves()",
        "int boot()", "int enough()", "int steps(int)", "int sleeps(int)", "int worth(int)", "int spares()",
        "int follows(int)", "int ring()", "int friends()", "int way(int,int)", "int heard(int,int)", "int forget()",
        "int fits()", "int asks()", "int saw(int,int,int)", "int denies()", "int laws()", "int looks()",
        "int odds(int,int)", "int vigil(int)", "int rests(int)", "int law()", "int years(int,int)",
        "boolean keep(int)", "boolean again(int)", "int count(int)", "long row(int)"};

    public static void main(String[] args) throws Exception {
        Class<?> c = BellForWanted.class;
        Check.due("public and final", c.getModifiers(), Modifier.PUBLIC | Modifier.FINAL);
        Set<String> names = methods(c);
        constructorAndConstants(c);
        for (Class<?> inside : c.getDeclaredClasses()) {
            Check.due(inside + " is static", Modifier.isStatic(inside.getModifiers()), true);
            Check.due(inside + " is not public", Modifier.isPublic(inside.getModifiers()), false);
            for (Method m : inside.getDeclaredMethods()) {
                Check.due(m + " bears no name of the face", names.contains(m.getName()), false);
            }
            fields(inside);
        }
        Check.due("some twelve classes", c.getDeclaredClasses().length < 12, true);
        fields(c);
        Check.ends();
    }

    private static Set<String> methods(Class<?> c) {
        Set<String> seen = new TreeSet<>();
        Set<String> names = new TreeSet<>();
        for (Method m : c.getDeclaredMethods()) {
            if (Modifier.isPublic(m.getModifiers())) {
                String parameters = Arrays.toString(m.getParameterTypes()).replaceAll("[\\[\\] ]", "");
                seen.add(m.getReturnType() + " " + m.getName() + "(" + parameters + ")");
                names.add(m.getName());
                Check.due(m + " is no static one", Modifier.isStatic(m.getModifiers()), false);
                throwing(m);
            }
        }
        Check.same("the face", seen.toString(), new TreeSet<>(Arrays.asList(FACE)).toString());
        for (Method m : c.getDeclaredMethods()) {
            if (!Modifier.isPublic(m.getModifiers())) {
                Check.due(m + " is private", Modifier.isPrivate(m.getModifiers()), true);
                Check.due(m + " bears no name of the face", names.contains(m.getName()), false);
            }
        }
        return names;
    }

    private static void throwing(Method m) {
        boolean may = m.getName().equals("one") || m.getName().equals("row");
        Class<?>[] thrown = m.getExceptionTypes();
        Check.due(m + " throws", thrown.length, may ? 1 : 0);
        if (may && thrown.length == 1) {
            Check.due(m + " throws it", thrown[0] == NoSuchElementException.class, true);
        }
    }

    private static void constructorAndConstants(Class<?> c) throws Exception {
        Constructor<?>[] all = c.getDeclaredConstructors();
        Check.due("one constructor", all.length, 1);
        Check.due("it is public", Modifier.isPublic(all[0].getModifiers()), true);
        Check.due("it takes nothing", all[0].getParameterCount(), 0);
        for (Field f : c.getDeclaredFields()) {
            boolean none = f.getName().equals("NONE");
            Check.due(f + " is private", Modifier.isPrivate(f.getModifiers()), !none);
        }
        Check.due("NONE", c.getField("NONE").getInt(null), -1);
        Check.due("NONE is a constant", c.getField("NONE").getModifiers(),
            Modifier.PUBLIC | Modifier.STATIC | Modifier.FINAL);
    }

    private static void fields(Class<?> c) {
        int own = 0;
        for (Field f : c.getDeclaredFields()) {
            boolean fixed = Modifier.isStatic(f.getModifiers());
            own += fixed ? 0 : 1;
            Check.due(f + " is final, if static", !fixed || Modifier.isFinal(f.getModifiers()), true);
        }
        Check.due(c + " has some twenty fields", own <= 20, true);
    }
}
