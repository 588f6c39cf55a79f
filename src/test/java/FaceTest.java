import java.lang.reflect.Constructor;
import java.lang.reflect.Field;
import java.lang.reflect.Method;
import java.lang.reflect.Modifier;
import java.util.Arrays;
import java.util.HashSet;
import java.util.List;
import java.util.Set;
import java.util.TreeSet;

/** The public face, and the bounds that LANGUAGE.md sets to the members. */
final class FaceTest {
    private static final String INDEX = " IndexOutOfBoundsException";
    private static final String STATE = " IllegalStateException";
    private static final String NUMBER = " IllegalArgumentException";
    private static final String ROOM = " UnsupportedOperationException";

    private static final List<String> FACE = Arrays.asList(
            "int map(int,int)" + INDEX + STATE,
            "int policy(int,boolean)" + NUMBER,
            "int master(int,int,int)" + INDEX,
            "boolean early(int,boolean)" + INDEX,
            "int slave(int,int,int)" + INDEX,
            "int way(int,int,int)" + INDEX + NUMBER,
            "int spoil(int,int,boolean)" + INDEX + NUMBER,
            "int poke(int,int)" + INDEX + NUMBER,
            "int peek(int)" + INDEX,
            "int request(int,int,int,int,long)" + INDEX + NUMBER + ROOM,
            "int tick(int)" + NUMBER,
            "int drain(int)" + NUMBER,
            "int ticket(int,int)" + INDEX + NUMBER,
            "long data(int,int)" + INDEX,
            "int forget()" + STATE,
            "int wire(int,int,int,int)" + INDEX + NUMBER,
            "long content(int,int,int)" + INDEX,
            "int port(int,int,int)" + INDEX + NUMBER,
            "int target(int,int)" + INDEX + NUMBER,
            "int right(int,int)" + INDEX + NUMBER,
            "int told(int)",
            "void see(int,int,int,long,int)" + INDEX + NUMBER,
            "int judge(int)" + INDEX,
            "int watched(int,int)" + INDEX + NUMBER,
            "void again(int)" + INDEX,
            "void clear()");

    private static String signature(Method m) {
        StringBuilder text = new StringBuilder(m.getReturnType().getName());
        text.append(' ').append(m.getName()).append('(');
        for (int i = 0; i < m.getParameterCount(); i++) {
            text.append(i == 0 ? "" : ",").append(m.getParameterTypes()[i].getName());
        }
        text.append(')');
        for (Class<?> thrown : m.getExceptionTypes()) {
            text.append(' ').append(thrown.getSimpleName());
        }
        return text.toString();
    }

    public static void main(String[] args) {
        Check check = new Check();
        Class<?> type = BusCrossbar.class;
        check.due("NONE", BusCrossbar.NONE, -1);
        check.due("modifiers", type.getModifiers(), Modifier.PUBLIC | Modifier.FINAL);

        Set<String> names = new HashSet<>();
        Set<String> open = new TreeSet<>();
        for (Method m : type.getDeclaredMethods()) {
            if (!Modifier.isPrivate(m.getModifiers())) {
                open.add(signature(m));
                names.add(m.getName());
            }
        }
        check.due("methods", open.toString(), new TreeSet<>(FACE).toString());

        Constructor<?>[] constructors = type.getDeclaredConstructors();
        check.due("constructors", Arrays.toString(constructors), "[public BusCrossbar(int,int,int)]");
        for (Field f : type.getDeclaredFields()) {
            boolean shown = !Modifier.isPrivate(f.getModifiers());
            check.due("shown " + f.getName(), shown ? 1 : 0, f.getName().equals("NONE") ? 1 : 0);
        }

        checkMethods(check, type, names);
        for (Class<?> inside : type.getDeclaredClasses()) {
            check.due("static " + inside, Modifier.isStatic(inside.getModifiers()) ? 1 : 0, 1);
            checkMethods(check, inside, names);
            checkStaticFields(check, inside);
        }
        checkStaticFields(check, type);
        check.due("at most twelve classes", type.getDeclaredClasses().length < 12 ? 1 : 0, 1);
        check.end();
    }

    private static void checkMethods(Check check, Class<?> type, Set<String> faceNames) {
        for (Method m : type.getDeclaredMethods()) {
            boolean ofFace = type == BusCrossbar.class && !Modifier.isPrivate(m.getModifiers());
            check.due("name of " + m, !ofFace && faceNames.contains(m.getName()) ? 1 : 0, 0);
            check.due("parameters of " + m, m.getParameterCount() <= 7 ? 1 : 0, 1);
        }
    }

    private static void checkStaticFields(Check check, Class<?> type) {
        int own = 0;
        for (Field f : type.getDeclaredFields()) {
            if (Modifier.isStatic(f.getModifiers())) {
                check.due("final " + f, Modifier.isFinal(f.getModifiers()) ? 1 : 0, 1);
            } else {
                own++;
            }
        }
        check.due("fields of " + type, own <= 20 ? 1 : 0, 1);
    }
}
