import java.lang.reflect.Constructor;
import java.lang.reflect.Field;
import java.lang.reflect.Method;
import java.lang.reflect.Modifier;
import java.util.TreeSet;

/** The public face is the document's and no more (rule 1 of LANGUAGE.md), and the constants are its own. */
public final class FaceTest {
    private static final String[] METHODS = {
        "int feed(int,int,int,int,int) IllegalStateException",
        "void end(int) IllegalArgumentException",
        "int schema()",
        "int register(int) IndexOutOfBoundsException",
        "int look(int,int) IndexOutOfBoundsException",
        "int place()",
        "int load(int,int) IndexOutOfBoundsException",
        "int read(int,int,int) IndexOutOfBoundsException",
        "int copy(int,int,int) IndexOutOfBoundsException",
        "int compact(int) IndexOutOfBoundsException",
        "int clear(int) IndexOutOfBoundsException",
        "boolean fits(int,int,int,int) IndexOutOfBoundsException",
        "int count(int,int) IndexOutOfBoundsException IllegalArgumentException",
        "long print(int,int) IndexOutOfBoundsException",
        "int letter(int,int) IndexOutOfBoundsException IllegalArgumentException",
        "int size(int) IllegalArgumentException",
        "int file(int,int) IndexOutOfBoundsException IllegalArgumentException",
        "int files()",
        "void power(int) IllegalArgumentException",
        "int start() IllegalStateException",
    };
    private static final String[] CONSTANTS = {
        "NONE -1", "UNRESOLVED -20", "UNFIT -30", "FULL -31", "LOST -32", "DOWN -33", "EMPTY -34",
    };

    public static void main(String[] args) throws ReflectiveOperationException {
        Check check = new Check();
        TreeSet<String> due = new TreeSet<>(java.util.List.of(METHODS));
        TreeSet<String> names = new TreeSet<>();
        TreeSet<String> got = new TreeSet<>();
        for (Method m : RecordLake.class.getDeclaredMethods()) {
            if (!Modifier.isPrivate(m.getModifiers())) {
                check.yes(m + " is public", Modifier.isPublic(m.getModifiers()));
                got.add(told(m));
                names.add(m.getName());
            }
        }
        check.same("the face", got.toString(), due.toString());
        TreeSet<String> constants = new TreeSet<>();
        for (Field f : RecordLake.class.getDeclaredFields()) {
            if (!Modifier.isPrivate(f.getModifiers())) {
                constants.add(f.getName() + " " + f.getInt(null));
            }
            check.yes(f + " is final or no static", Modifier.isFinal(f.getModifiers()) || !Modifier.isStatic(f.getModifiers()));
        }
        check.same("the constants", constants.toString(), new TreeSet<>(java.util.List.of(CONSTANTS)).toString());
        Constructor<?>[] constructors = RecordLake.class.getDeclaredConstructors();
        check.same("constructors", constructors.length, 1);
        check.same("the constructor's parameters", constructors[0].getParameterCount(), 0);
        check.yes("the constructor is public", Modifier.isPublic(constructors[0].getModifiers()));
        check.yes("the class is final", Modifier.isFinal(RecordLake.class.getModifiers()));
        checkInside(check, names);
        check.finish("FaceTest");
    }

    private static void checkInside(Check check, TreeSet<String> names) {
        Class<?>[] inside = RecordLake.class.getDeclaredClasses();
        check.yes("some twelve classes", inside.length <= 12);
        for (Class<?> c : inside) {
            check.no(c + " is public", Modifier.isPublic(c.getModifiers()));
            check.yes(c + " is static", Modifier.isStatic(c.getModifiers()));
            int fields = 0;
            for (Field f : c.getDeclaredFields()) {
                fields += Modifier.isStatic(f.getModifiers()) ? 0 : 1;
            }
            check.yes(c + " has some twenty fields", fields <= 20);
            for (Method m : c.getDeclaredMethods()) {
                check.no(m + " bears a public name", names.contains(m.getName()));
                check.yes(m + " takes seven at most", m.getParameterCount() <= 7);
            }
        }
        for (Method m : RecordLake.class.getDeclaredMethods()) {
            boolean isPrivate = Modifier.isPrivate(m.getModifiers());
            check.no(m + " bears a public name", isPrivate && names.contains(m.getName()));
        }
    }

    private static String told(Method m) {
        StringBuilder all = new StringBuilder(m.getReturnType().getSimpleName());
        all.append(' ').append(m.getName()).append('(');
        for (int i = 0; i < m.getParameterCount(); i++) {
            all.append(i == 0 ? "" : ",").append(m.getParameterTypes()[i].getSimpleName());
        }
        all.append(')');
        for (Class<?> thrown : m.getExceptionTypes()) {
            all.append(' ').append(thrown.getSimpleName());
        }
        return all.toString();
    }
}
