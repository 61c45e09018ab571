import java.lang.reflect.Constructor;
import java.lang.reflect.Field;
import java.lang.reflect.Method;
import java.lang.reflect.Modifier;
import java.util.Arrays;
import java.util.Set;
import java.util.TreeSet;

/** The public face, and nothing besides it. */
public final class FaceTest {
    public static void main(String[] args) {
        Check check = new Check();
        Set<String> seen = new TreeSet<>();
        for (Method m : QuadMode.class.getDeclaredMethods()) {
            if (!Modifier.isPrivate(m.getModifiers())) {
                seen.add(m.getReturnType() + " " + m.getName() + Arrays.toString(m.getParameterTypes()));
                check.due(m + " is public", m.getModifiers(), Modifier.PUBLIC);
            }
        }
        Set<String> due = new TreeSet<>(Arrays.asList(
                "void fill[int, long]", "int look[int]", "void set[int, int]", "int register[int]",
                "void setInner[int, int]", "int inner[int]", "void begin[int]", "int status[]", "int run[int]",
                "int reach[int, boolean, int]", "int state[int]"));
        if (!seen.equals(due)) {
            System.out.println("methods " + seen);
        }
        check.due("the methods are those of the document", seen.equals(due) ? 1 : 0, 1);
        for (Field f : QuadMode.class.getDeclaredFields()) {
            check.due(f + " is private", f.getModifiers() & Modifier.PRIVATE, Modifier.PRIVATE);
        }
        Constructor<?>[] makers = QuadMode.class.getDeclaredConstructors();
        check.due("constructors", makers.length, 1);
        check.due("the constructor is public", makers[0].getModifiers(), Modifier.PUBLIC);
        check.due("its parameters", makers[0].getParameterCount(), 0);
        check.due("the class", QuadMode.class.getModifiers(), Modifier.PUBLIC | Modifier.FINAL);
        check.end();
    }
}
