import java.lang.reflect.Constructor;
import java.lang.reflect.Field;
import java.lang.reflect.Method;
import java.lang.reflect.Modifier;
import java.util.Set;
import java.util.TreeSet;

/** The public face as the document writes it. */
public final class FaceTest {
    private static final String METHODS = "boolean copy(int,int), boolean empty(int), boolean keep(int,boolean), "
            + "boolean number(int,int), boolean unit(int,int,int,int), int cell(int,int), int changed(int,int), "
            + "int check(), int count(int), int feed(long,long,long), int finding(int,int), int formula(int), "
            + "int mend(int), int stretch(int,int), int undo(), int ways(int,int)";

    public static void main(String[] args) {
        members();
        Expect.end();
    }

    private static void members() {
        Class<?> face = SheetDoctor.class;
        Expect.same("modifiers", face.getModifiers(), Modifier.PUBLIC | Modifier.FINAL);
        Set<String> methods = new TreeSet<>();
        for (Method method : face.getDeclaredMethods()) {
            if (!Modifier.isPrivate(method.getModifiers()) && !method.isSynthetic()) {
                String[] parts = method.toString().replace("SheetDoctor.", "").split(" throws ")[0].split(" ");
                methods.add(parts[parts.length - 2] + " " + parts[parts.length - 1]);
            }
        }
        Expect.same("methods", String.join(", ", methods), METHODS);
        for (Field field : face.getDeclaredFields()) {
            Expect.yes(field.toString(), Modifier.isPrivate(field.getModifiers()) != field.getName().equals("NONE"));
        }
        Constructor<?>[] constructors = face.getDeclaredConstructors();
        Expect.same("constructors", constructors.length, 1);
        Expect.same("its parameters", constructors[0].getParameterCount(), 0);
        for (Class<?> inside : face.getDeclaredClasses()) {
            Expect.yes(inside.toString(), Modifier.isStatic(inside.getModifiers()));
        }
    }
}
