import java.lang.reflect.Constructor;
import java.lang.reflect.Field;
import java.lang.reflect.Method;
import java.lang.reflect.Modifier;
import java.util.Arrays;
import java.util.TreeSet;

/** The public face is the document's, and nothing else is to be seen from outside. */
public final class FaceTest {
    private static final String[] CALLS = {
        "int house(int,int,int,int)", "int ofRun(int,int)", "int shut(int,boolean)", "int run(int,int,int)",
        "int along(int,int,int)", "int box(int)", "int point(int,int,int)", "int ofPoint(int,int)",
        "int load(int,int)", "int way(int,int,int,int,int,int)", "int away(int)", "int ofWay(int,int)",
        "int cable(int,int)", "long carries(int,int,int)", "long drop(int,int,int)", "int tooMuch(int)",
        "int least(int,int)", "int order(int,int,int)", "int plan(int,int,boolean)",
        "int on(int,int,boolean,int)", "int best(int,int,boolean)", "int costs(int,int,int,boolean)",
        "int cores(int,int)", "int door(int,int,int)", "int reading(int,int)", "int back(int)",
        "int fits(int)", "int next()", "int sheet(int,int,int)", "int lose(int)", "int put(int,int,int)",
        "long cell(int,int,int)", "int copy(int,int,int,int,int)", "int tell(int)", "int label(int)",
        "int as(int,int)", "int trace()", "int fault()", "int many(int)",
    };

    private static String written(Method m) {
        StringBuilder types = new StringBuilder();
        for (Class<?> type : m.getParameterTypes()) {
            types.append(types.length() == 0 ? "" : ",").append(type.getName());
        }
        return m.getReturnType().getName() + " " + m.getName() + "(" + types + ")";
    }

    public static void main(String[] args) {
        Due due = new Due("FaceTest");
        due.holds("no package", LampWays.class.getPackageName().isEmpty());
        due.holds("nothing above it", LampWays.class.getSuperclass() == Object.class
                && LampWays.class.getInterfaces().length == 0);
        due.holds("public final class", Modifier.isPublic(LampWays.class.getModifiers())
                && Modifier.isFinal(LampWays.class.getModifiers()));
        TreeSet<String> seen = new TreeSet<>();
        TreeSet<String> hidden = new TreeSet<>();
        for (Class<?> inside : LampWays.class.getDeclaredClasses()) {
            due.holds(inside.getSimpleName() + " is static and not to be seen", Modifier.isStatic(inside.getModifiers())
                    && !Modifier.isPublic(inside.getModifiers()) && !Modifier.isProtected(inside.getModifiers()));
        }
        for (Method m : LampWays.class.getDeclaredMethods()) {
            due.holds(m.getName() + " names no exception", m.getExceptionTypes().length == 0);
            (Modifier.isPrivate(m.getModifiers()) ? hidden : seen).add(
                    Modifier.isPrivate(m.getModifiers()) ? m.getName() : written(m));
            due.holds(m.getName() + " is no static one of the face",
                    Modifier.isPrivate(m.getModifiers()) || !Modifier.isStatic(m.getModifiers()));
        }
        due.holds("the calls are those of the document: " + seen, seen.equals(new TreeSet<>(Arrays.asList(CALLS))));
        for (String call : CALLS) {
            String name = call.substring(call.indexOf(' ') + 1, call.indexOf('('));
            due.holds("no private method is named " + name, !hidden.contains(name));
        }
        TreeSet<String> constants = new TreeSet<>();
        for (Field f : LampWays.class.getDeclaredFields()) {
            if (!Modifier.isPrivate(f.getModifiers())) {
                due.is(f.getName() + " is public, static, final", f.getModifiers(),
                        Modifier.PUBLIC | Modifier.STATIC | Modifier.FINAL);
                constants.add(f.getType().getName() + " " + f.getName());
            }
        }
        due.holds("the constants are those of the document: " + constants, constants.equals(new TreeSet<>(
                Arrays.asList("int UNKNOWN", "int OUTSIDE", "int STATE", "int FULL", "int NONE", "long LOST"))));
        Constructor<?>[] made = LampWays.class.getDeclaredConstructors();
        due.holds("one public constructor", made.length == 1 && made[0].getParameterCount() == 0
                && Modifier.isPublic(made[0].getModifiers()));
        due.is("UNKNOWN", LampWays.UNKNOWN, -1);
        due.is("OUTSIDE", LampWays.OUTSIDE, -2);
        due.is("STATE", LampWays.STATE, -3);
        due.is("FULL", LampWays.FULL, -4);
        due.is("NONE", LampWays.NONE, -9);
        due.is("LOST", LampWays.LOST, Long.MIN_VALUE);
        due.end();
    }
}
