import java.lang.reflect.Constructor;
import java.lang.reflect.Field;
import java.lang.reflect.InvocationTargetException;
import java.lang.reflect.Method;
import java.lang.reflect.Modifier;
import java.util.ArrayList;
import java.util.Arrays;
import java.util.Comparator;
import java.util.List;
import java.util.Random;

/** The public face is the document's, and wild calls throw nothing but what it names for each of them. */
public final class FaceTest {
    private static final String[] FACE = {
        "int call(int) IndexOutOfBoundsException",
        "int callFor(int) IndexOutOfBoundsException",
        "int command(int)",
        "int done(int,int) IndexOutOfBoundsException",
        "int entry(int,int,int) IllegalArgumentException IllegalStateException",
        "int letter(int,int) IndexOutOfBoundsException",
        "int log(int,int) IndexOutOfBoundsException",
        "int peer(int,int) IndexOutOfBoundsException",
        "int read()",
        "int state(int) IndexOutOfBoundsException",
        "int sync()",
        "boolean compact(int)",
        "boolean hand(int)",
        "boolean learners(int)",
        "boolean members(int)",
        "boolean tick(int) IllegalArgumentException",
        "void answer(int,int,boolean) IndexOutOfBoundsException IllegalArgumentException",
        "void append(int,int,int,int,int,int) IndexOutOfBoundsException IllegalArgumentException",
        "void appended(int,int,boolean,int,int) IndexOutOfBoundsException IllegalArgumentException",
        "void ask(int,int,int,int) IndexOutOfBoundsException IllegalArgumentException",
        "void describe(int,int,int,int) IllegalArgumentException",
        "void go(int,int) IndexOutOfBoundsException IllegalArgumentException",
        "void piece(int,int,int,int,int) IndexOutOfBoundsException IllegalArgumentException",
        "void preanswer(int,int,boolean) IndexOutOfBoundsException IllegalArgumentException",
        "void preask(int,int,int,int) IndexOutOfBoundsException IllegalArgumentException",
        "void restart()",
        "void stored(int,int,int,int,int) IndexOutOfBoundsException IllegalArgumentException",
    };

    private FaceTest() {
    }

    public static void main(String[] args) throws IllegalAccessException {
        Class<LogServer> type = LogServer.class;
        Check.due("public and final", type.getModifiers(), Modifier.PUBLIC | Modifier.FINAL);
        Check.due("NONE", LogServer.NONE, -1);
        constructorsAndFields(type);
        List<Method> methods = publicMethods(type);
        List<String> want = new ArrayList<>(Arrays.asList(FACE));
        for (Method m : methods) {
            if (!want.remove(told(m))) {
                Check.fail("not in the face: " + told(m));
            }
        }
        Check.due("missing " + want, want.size(), 0);
        noPrivateNamesake(type, methods);
        for (long seed = 0; seed < 400; seed++) {
            wildCalls(methods, new Random(seed));
        }
        Check.end("FaceTest");
    }

    private static void constructorsAndFields(Class<LogServer> type) {
        Constructor<?>[] made = type.getDeclaredConstructors();
        Check.due("constructors", made.length, 1);
        Check.due("of itself, first, row", Arrays.equals(made[0].getParameterTypes(),
            new Class<?>[] {int.class, int.class, long.class}), true);
        for (Field f : type.getDeclaredFields()) {
            boolean isNone = f.getName().equals("NONE");
            Check.due("field " + f.getName(), Modifier.isPrivate(f.getModifiers()), !isNone);
        }
    }

    private static List<Method> publicMethods(Class<LogServer> type) {
        List<Method> all = new ArrayList<>();
        for (Method m : type.getDeclaredMethods()) {
            if (Modifier.isPublic(m.getModifiers())) {
                all.add(m);
            } else {
                Check.due("method " + m.getName(), Modifier.isPrivate(m.getModifiers()), true);
            }
        }
        // Reflection promises no order, and the wild calls are to be the same each time.
        all.sort(Comparator.comparing(Method::getName));
        return all;
    }

    private static void noPrivateNamesake(Class<LogServer> type, List<Method> face) {
        List<Class<?>> classes = new ArrayList<>(Arrays.asList(type.getDeclaredClasses()));
        classes.add(type);
        for (Class<?> c : classes) {
            for (Method m : c.getDeclaredMethods()) {
                boolean same = face.stream().anyMatch(f -> f.getName().equals(m.getName()) && !f.equals(m));
                Check.due("another " + m.getName() + " in " + c.getSimpleName(), same, false);
            }
        }
    }

    private static String told(Method m) {
        StringBuilder text = new StringBuilder(m.getReturnType() + " " + m.getName() + "(");
        for (int k = 0; k < m.getParameterCount(); k++) {
            text.append(k == 0 ? "" : ",").append(m.getParameterTypes()[k]);
        }
        text.append(")");
        for (Class<?> e : m.getExceptionTypes()) {
            text.append(" ").append(e.getSimpleName());
        }
        return text.toString();
    }

    private static void wildCalls(List<Method> methods, Random random) throws IllegalAccessException {
        LogServer x = new LogServer(random.nextInt(), random.nextInt(), random.nextLong());
        for (int k = 0; k < 1000; k++) {
            Method m = methods.get(random.nextInt(methods.size()));
            Object[] values = new Object[m.getParameterCount()];
            for (int i = 0; i < values.length; i++) {
                values[i] = m.getParameterTypes()[i] == boolean.class ? (Object) random.nextBoolean() : (Object) wild(random);
            }
            try {
                m.invoke(x, values);
            } catch (InvocationTargetException e) {
                // The very class, for what the machine throws is a class below, and not promised.
                if (!Arrays.asList(m.getExceptionTypes()).contains(e.getCause().getClass())) {
                    Check.fail(m.getName() + Arrays.toString(values) + " threw " + e.getCause());
                }
            }
        }
    }

    private static int wild(Random random) {
        int[] edges = {0, 1, 6, 7, 127, 128, 200, 201, 300, 512, 1000, 1001, 1000000, 1000001,
            Integer.MAX_VALUE, Integer.MIN_VALUE, -1};
        int choice = random.nextInt(20);
        if (choice == 0) {
            return random.nextInt();
        }
        return choice < 4 ? edges[random.nextInt(edges.length)] : random.nextInt(9);
    }
}
