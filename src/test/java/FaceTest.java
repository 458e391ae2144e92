import java.lang.reflect.Constructor;
import java.lang.reflect.Field;
import java.lang.reflect.Method;
import java.lang.reflect.Modifier;
import java.util.Set;
import java.util.TreeSet;

/** The public face as the document writes it, and the README's example. */
public final class FaceTest {
    private static final String METHODS = "boolean copy(int,int), boolean empty(int), boolean keep(int,boolean), "
            + "boolean number(int,int), boolean unit(int,int,int,int), int cell(int,int), int changed(int,int), "
            + "int check(), int count(int), int feed(long,long,long), int finding(int,int), int formula(int), "
            + "int mend(int), int stretch(int,int), int undo(), int ways(int,int)";

    public static void main(String[] args) {
        members();
        example();
        Expect.end();
    }

    private static void members() {
        Class<?> face = SheetDoctor.class;
        Expect.same("modifiers", face.getModifiers(), Modifier.PUBLIC | Modifier.FINAL);
        Set<String> methods = new TreeSet<>();
        for (Method method : face.getDeclaredMethods()) {
            if (!Modifier.isPrivate(method.getModifiers()) && !method.isSynthetic()) {
                String[] parts = method.toString().replace("SheetDoctor.", "").split(" throws ")[0].split(" ");
                methods.add(parts[parts.length - 2] + " " + parts[parts.length - 1]);
            }
        }
        Expect.same("methods", String.join(", ", methods), METHODS);
        for (Field field : face.getDeclaredFields()) {
            Expect.yes(field.toString(), Modifier.isPrivate(field.getModifiers()) != field.getName().equals("NONE"));
        }
        Constructor<?>[] constructors = face.getDeclaredConstructors();
        Expect.same("constructors", constructors.length, 1);
        Expect.same("its parameters", constructors[0].getParameterCount(), 0);
        for (Class<?> inside : face.getDeclaredClasses()) {
            Expect.yes(inside.toString(), Modifier.isStatic(inside.getModifiers()));
        }
    }

    private static void example() {
        SheetDoctor doctor = new SheetDoctor();
        doctor.number(0, 5);
        doctor.number(12, 7);
        doctor.number(24, 9);
        doctor.feed(0x73756d2861313a61L, 0x3229L, 0);
        Expect.same("formula", doctor.formula(37), 0);
        Expect.same("cell", doctor.cell(37, 1), 12);
        Expect.same("check", doctor.check(), 3);
        Expect.same("kind", doctor.finding(1, 0), 3);
        Expect.same("other", doctor.finding(1, 2), 24);
        Expect.same("stretch", doctor.stretch(37, 0), 1);
        Expect.same("changed", doctor.changed(0, 2), 21);
        Expect.same("undo", doctor.undo(), 1);
    }
}
