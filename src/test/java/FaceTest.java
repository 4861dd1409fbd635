import java.lang.reflect.Constructor;
import java.lang.reflect.Field;
import java.lang.reflect.Method;
import java.lang.reflect.Modifier;
import java.util.ArrayList;
import java.util.List;
import java.util.TreeSet;

/** The public face of the document, and nothing else that can be seen from outside. */
public final class FaceTest {
    public static void main(String[] args) {
        Due.answers("the class's modifiers", Modifier.PUBLIC | Modifier.FINAL, FlatModule.class::getModifiers);
        Due.same("constructors", seen(FlatModule.class.getDeclaredConstructors()), "public FlatModule()");
        Due.same("fields", String.valueOf(visibleFields()), "[]");
        Due.same("methods", String.valueOf(visibleMethods()), String.valueOf(new TreeSet<>(List.of(
                "public void FlatModule.function(int,int,int,int,int) throws java.lang.IllegalArgumentException",
                "public int FlatModule.emit(int,int,int) throws "
                        + "java.lang.IllegalArgumentException,java.lang.IllegalStateException",
                "public void FlatModule.erase(int) throws java.lang.IllegalArgumentException",
                "public int FlatModule.check()",
                "public double FlatModule.run(int,double,double,double,int) throws "
                        + "java.lang.IllegalArgumentException,java.lang.IllegalStateException,"
                        + "java.lang.ArithmeticException,java.lang.UnsupportedOperationException",
                "public double FlatModule.global(int) throws java.lang.IllegalArgumentException",
                "public int FlatModule.count(int)"))));
        Due.end();
    }

    private static String seen(Constructor<?>[] constructors) {
        List<String> all = new ArrayList<>();
        for (Constructor<?> constructor : constructors) {
            all.add(constructor.toString());
        }
        return String.join(";", all);
    }

    private static List<String> visibleFields() {
        List<String> all = new ArrayList<>();
        for (Field field : FlatModule.class.getDeclaredFields()) {
            if (!Modifier.isPrivate(field.getModifiers())) {
                all.add(field.toString());
            }
        }
        return all;
    }

    private static TreeSet<String> visibleMethods() {
        TreeSet<String> all = new TreeSet<>();
        for (Method method : FlatModule.class.getDeclaredMethods()) {
            if (!Modifier.isPrivate(method.getModifiers())) {
                all.add(method.toString());
            }
        }
        return all;
    }
}
