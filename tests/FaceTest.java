import java.lang.reflect.Constructor;
import java.lang.reflect.Field;
import java.lang.reflect.Member;
import java.lang.reflect.Method;
import java.lang.reflect.Modifier;
import java.util.ArrayList;
import java.util.List;
import java.util.Random;
import java.util.TreeSet;

/** The face is the document's and nothing more, and no call throws, whatever it is given. */
public final class FaceTest {
    private static final String[] FACE = {
        "int best(int,int)", "int broken(int,boolean)", "int count(int)", "int draw(int,int)", "int even(int,int)",
        "int fault()", "int feed(int,long)", "int fit()", "int forget()", "int joint(int,int)", "int load(int,int,int)",
        "int newCase()", "int pass(int)", "int passes(int)", "int read()", "int reading(int,int,int)", "int row(int)",
        "int set(int,int,int)", "int suspect(int)", "int told(int,int)", "int weakest()", "int weights(int,int,int)",
        "int worst()", "long chance(int,int,int)", "long force(int,int,int)", "long leak(int,int)"};
    private static final String[] CONSTANTS = {"FULL", "LARGE", "NONE", "NOT", "OUTSIDE", "UNKNOWN"};
    private static final int[] ODD = {Integer.MIN_VALUE, Integer.MIN_VALUE + 1, -100001, -2, -1, 0, 1, 2, 3, 4, 5, 6, 7,
        8, 9, 10, 63, 64, 160, 200, 201, 900, 901, 2000, 2001, 3210, 43210, 543210, Integer.MAX_VALUE - 1, Integer.MAX_VALUE};

    private static int wrong = 0;

    public static void main(String[] args) throws ReflectiveOperationException {
        faceIsTheDocuments();
        privateNamesAreOthers();
        for (int seed = 0; seed < 40; seed++) {
            callsWithOddArguments(new Random(seed));
        }
        if (wrong != 0) {
            System.exit(1);
        }
    }

    private static void holds(String what, boolean is) {
        if (!is) {
            wrong++;
            System.out.println(what);
        }
    }

    private static String signature(Method m) {
        StringBuilder text = new StringBuilder(m.getReturnType() + " " + m.getName() + "(");
        for (Class<?> type : m.getParameterTypes()) {
            text.append(text.charAt(text.length() - 1) == '(' ? "" : ",").append(type);
        }
        return text.append(")").toString();
    }

    private static void faceIsTheDocuments() {
        TreeSet<String> methods = new TreeSet<>();
        TreeSet<String> fields = new TreeSet<>();
        for (Method m : BoltRing.class.getDeclaredMethods()) {
            if (isSeen(m)) {
                methods.add(signature(m));
                holds(m + " is not plainly public", m.getModifiers() == Modifier.PUBLIC);
            }
        }
        for (Field f : BoltRing.class.getDeclaredFields()) {
            if (isSeen(f)) {
                fields.add(f.getName());
                holds(f + " is no constant", Modifier.isPublic(f.getModifiers()) && Modifier.isStatic(f.getModifiers())
                        && Modifier.isFinal(f.getModifiers()) && f.getType() == int.class);
            }
        }
        Constructor<?>[] constructors = BoltRing.class.getDeclaredConstructors();
        holds("the methods are " + methods, methods.equals(new TreeSet<>(List.of(FACE))));
        holds("the constants are " + fields, fields.equals(new TreeSet<>(List.of(CONSTANTS))));
        holds("one public constructor without arguments", constructors.length == 1
                && Modifier.isPublic(constructors[0].getModifiers()) && constructors[0].getParameterCount() == 0);
        holds("a public final class", BoltRing.class.getModifiers() == (Modifier.PUBLIC | Modifier.FINAL));
    }

    private static boolean isSeen(Member member) {
        return !Modifier.isPrivate(member.getModifiers()) && !member.isSynthetic();
    }

    private static void privateNamesAreOthers() {
        List<String> names = new ArrayList<>();
        for (Method m : BoltRing.class.getDeclaredMethods()) {
            names.add(m.getName());
        }
        for (Class<?> inside : BoltRing.class.getDeclaredClasses()) {
            holds(inside + " is not static", Modifier.isStatic(inside.getModifiers()));
            for (Method m : inside.getDeclaredMethods()) {
                for (String face : FACE) {
                    holds(m + " bears a public name", !face.contains(" " + m.getName() + "("));
                }
            }
        }
        holds("a method's name stands twice", new TreeSet<>(names).size() == names.size());
    }

    private static void callsWithOddArguments(Random random) throws ReflectiveOperationException {
        BoltRing x = new BoltRing();
        List<Method> methods = new ArrayList<>();
        for (Method m : BoltRing.class.getDeclaredMethods()) {
            if (isSeen(m)) {
                methods.add(m);
            }
        }
        methods.sort((a, b) -> a.getName().compareTo(b.getName()));
        for (int call = 0; call < 600; call++) {
            Method m = methods.get(random.nextInt(methods.size()));
            Object[] arguments = new Object[m.getParameterCount()];
            for (int i = 0; i < arguments.length; i++) {
                Class<?> type = m.getParameterTypes()[i];
                if (type == boolean.class) {
                    arguments[i] = random.nextBoolean();
                } else if (type == long.class) {
                    arguments[i] = random.nextLong();
                } else {
                    arguments[i] = random.nextInt(3) > 0 ? random.nextInt(10) : ODD[random.nextInt(ODD.length)];
                }
            }
            m.invoke(x, arguments);
        }
    }
}
