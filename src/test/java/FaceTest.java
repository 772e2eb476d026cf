import java.lang.reflect.Constructor;
import java.lang.reflect.Field;
import java.lang.reflect.Method;
import java.lang.reflect.Modifier;
import java.util.Set;
import java.util.TreeSet;

/** The public face is the document's, to the letter, and nothing more; static fields are final. */
final class FaceTest {
    private static final Check CHECK = new Check("FaceTest");
    private static final String[] METHODS = {
        "int interpreter(int,int,int) IndexOutOfBoundsException IllegalArgumentException",
        "boolean waive(int,boolean) IndexOutOfBoundsException",
        "int file(int,int,int,int) IndexOutOfBoundsException IllegalArgumentException IllegalStateException",
        "int pay(int,int) IndexOutOfBoundsException IllegalArgumentException",
        "int decide(int) IndexOutOfBoundsException IllegalStateException",
        "int appeal(int) IndexOutOfBoundsException IllegalStateException",
        "int settle(int,boolean) IndexOutOfBoundsException IllegalStateException",
        "int close(int) IndexOutOfBoundsException IllegalStateException",
        "int plan(int,int,int,int,int) IndexOutOfBoundsException IllegalArgumentException IllegalStateException",
        "int move(int,int,int,int) IndexOutOfBoundsException IllegalArgumentException IllegalStateException",
        "int drop(int) IndexOutOfBoundsException IllegalStateException",
        "boolean notice(int,int) IndexOutOfBoundsException IllegalArgumentException IllegalStateException",
        "int pass(int) IllegalArgumentException IllegalStateException",
        "int clash(int,int,int,int,int) IndexOutOfBoundsException IllegalArgumentException",
        "int at(int,int,int) IllegalArgumentException IndexOutOfBoundsException",
        "int about(int,int) IndexOutOfBoundsException IllegalArgumentException",
        "int hearing(int,int) IndexOutOfBoundsException IllegalArgumentException",
        "int paidBy(int,int) IndexOutOfBoundsException",
        "int balances()",
        "int hour()",
    };
    private static final String[] CONSTANTS = {"NONE -1", "FILED 0", "HEARD 1", "DECIDED 2", "HELD_UP 3",
        "CLOSED 4", "LAPSED 5", "PLANNED 0", "HELD 1", "FAILED 2", "DROPPED 3"};

    public static void main(String[] args) throws IllegalAccessException {
        CHECK.is("the class", Modifier.toString(Hearingpay.class.getModifiers()), "public final");
        methods();
        constants();
        Constructor<?>[] constructors = Hearingpay.class.getDeclaredConstructors();
        CHECK.is("the constructors", constructors.length, 1);
        CHECK.is("the constructor", constructors[0].toString(), "public Hearingpay()");
        for (Class<?> inside : Hearingpay.class.getDeclaredClasses()) {
            CHECK.is(inside.getName(), Modifier.isPublic(inside.getModifiers()), false);
            staticFieldsAreFinal(inside);
        }
        staticFieldsAreFinal(Hearingpay.class);
        CHECK.end();
    }

    private static void methods() {
        Set<String> got = new TreeSet<>();
        Set<String> names = new TreeSet<>();
        for (Method m : Hearingpay.class.getDeclaredMethods()) {
            if (!Modifier.isPrivate(m.getModifiers())) {
                got.add(faceOf(m));
                names.add(m.getName());
            }
        }
        CHECK.is("the methods", got, new TreeSet<>(Set.of(METHODS)));
        for (Method m : Hearingpay.class.getDeclaredMethods()) {
            if (Modifier.isPrivate(m.getModifiers())) {
                CHECK.is("private " + m.getName() + " is public, too", names.contains(m.getName()), false);
            }
        }
    }

    private static String faceOf(Method m) {
        StringBuilder s = new StringBuilder(m.getReturnType() + " " + m.getName() + "(");
        for (Class<?> parameter : m.getParameterTypes()) {
            s.append(s.charAt(s.length() - 1) == '(' ? "" : ",").append(parameter);
        }
        s.append(')');
        for (Class<?> thrown : m.getExceptionTypes()) {
            s.append(' ').append(thrown.getSimpleName());
        }
        return s.toString();
    }

    private static void constants() throws IllegalAccessException {
        Set<String> got = new TreeSet<>();
        for (Field f : Hearingpay.class.getDeclaredFields()) {
            if (!Modifier.isPrivate(f.getModifiers())) {
                CHECK.is(f.getName(), Modifier.toString(f.getModifiers()), "public static final");
                got.add(f.getName() + " " + f.getInt(null));
            }
        }
        CHECK.is("the constants", got, new TreeSet<>(Set.of(CONSTANTS)));
    }

    private static void staticFieldsAreFinal(Class<?> of) {
        for (Field f : of.getDeclaredFields()) {
            if (Modifier.isStatic(f.getModifiers())) {
                CHECK.is(of.getName() + "." + f.getName(), Modifier.isFinal(f.getModifiers()), true);
            }
        }
    }
}
