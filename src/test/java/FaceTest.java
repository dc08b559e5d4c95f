import java.lang.reflect.Constructor;
import java.lang.reflect.Field;
import java.lang.reflect.Method;
import java.lang.reflect.Modifier;
import java.util.TreeSet;

/** The public face is the document's, and the constants are. */
public final class FaceTest {
    public static void main(String[] args) throws Exception {
        Probe.due("NONE", SetBook.NONE, -1);
        Probe.due("FULL", SetBook.FULL, -4);
        Probe.due("NOTHING", SetBook.NOTHING, -2000000000);
        Probe.due("final", Modifier.isFinal(SetBook.class.getModifiers()), true);
        Constructor<?>[] made = SetBook.class.getDeclaredConstructors();
        Probe.due("constructors", made.length, 1);
        Probe.due("constructor", made[0].toString(), "public SetBook()");
        TreeSet<String> seen = new TreeSet<>();
        for (Method m : SetBook.class.getDeclaredMethods()) {
            if (!Modifier.isPrivate(m.getModifiers())) {
                seen.add(m.getReturnType() + " " + m.getName() + "/" + m.getParameterCount());
                Probe.due(m.getName() + " is public", Modifier.isPublic(m.getModifiers()), true);
            }
        }
        Probe.due("methods", seen.toString(), "[int count/1, int drop/1, int end/1, int feed/5, int keep/1, int mark/0, "
                + "int member/3, int number/3, int place/0, int print/0, int printed/1, int set/0, int shows/2, "
                + "int tree/0, int tuple/2]");
        TreeSet<String> fields = new TreeSet<>();
        for (Field f : SetBook.class.getDeclaredFields()) {
            if (!Modifier.isPrivate(f.getModifiers())) {
                fields.add(f.toString());
            }
        }
        Probe.due("fields", fields.toString(), "[public static final int SetBook.FULL, "
                + "public static final int SetBook.NONE, public static final int SetBook.NOTHING]");
        Probe.finish();
    }
}
