import java.lang.reflect.Constructor;
import java.lang.reflect.Field;
import java.lang.reflect.Method;
import java.lang.reflect.Modifier;
import java.util.Arrays;

/** The face is the document's and no more. */
public final class FaceTest {
    private static final String[] FACE = {
        "boolean isSound() []",
        "boolean limit(int) [IllegalArgumentException]",
        "double mean() []",
        "int at(int,int) [IndexOutOfBoundsException, IllegalArgumentException]",
        "int call() []",
        "int colour(int,int) [IndexOutOfBoundsException, IllegalArgumentException]",
        "int dot(int,int,int) [IndexOutOfBoundsException, IllegalArgumentException]",
        "int find(int,int,int) [IndexOutOfBoundsException, IllegalArgumentException]",
        "int jump(int) [IllegalArgumentException]",
        "int keep() [IllegalStateException]",
        "int lightest(int) [IllegalArgumentException]",
        "int meet(int,int,int,int) [IndexOutOfBoundsException, IllegalArgumentException]",
        "int merge() []",
        "int ofEntry(int,int) [IndexOutOfBoundsException, IllegalArgumentException]",
        "int ofRange(int,int) [IndexOutOfBoundsException, IllegalArgumentException]",
        "int paint(int,int,int,int) [IndexOutOfBoundsException, IllegalArgumentException]",
        "int period() []",
        "int picture(int) [IllegalArgumentException]",
        "int range(int,int,int,int) [IndexOutOfBoundsException, IllegalArgumentException, IllegalStateException]",
        "int run(int) [IllegalArgumentException, IllegalStateException]",
        "int stop(int) [IndexOutOfBoundsException]",
        "int turn(int,int,int) [IndexOutOfBoundsException, IllegalArgumentException]",
        "int when(int) [IndexOutOfBoundsException]",
        "java.lang.String row(int) [IndexOutOfBoundsException]",
        "long digest() []",
    };

    public static void main(String[] args) {
        Checks.due("public and final", Cyclepaint.class.getModifiers() & (Modifier.PUBLIC | Modifier.FINAL),
                Modifier.PUBLIC | Modifier.FINAL);
        Method[] methods = Cyclepaint.class.getDeclaredMethods();
        String[] open = Arrays.stream(methods)
                .filter(m -> !Modifier.isPrivate(m.getModifiers()))
                .map(FaceTest::signature).sorted().toArray(String[]::new);
        Checks.due("the face", String.join("; ", open), String.join("; ", FACE));
        for (Method hidden : methods) {
            if (Modifier.isPrivate(hidden.getModifiers())) {
                boolean taken = Arrays.stream(FACE).anyMatch(f -> f.contains(" " + hidden.getName() + "("));
                Checks.due("private " + hidden.getName() + " bears a public name", taken, false);
            }
        }
        for (Field field : Cyclepaint.class.getDeclaredFields()) {
            Checks.due(field.getName() + " is private", Modifier.isPrivate(field.getModifiers()), true);
            boolean isStatic = Modifier.isStatic(field.getModifiers());
            Checks.due(field.getName() + ": static ones are final",
                    !isStatic || Modifier.isFinal(field.getModifiers()), true);
        }
        Constructor<?>[] constructors = Cyclepaint.class.getDeclaredConstructors();
        Checks.due("constructors", constructors.length, 1);
        Checks.due("constructor's parameters", constructors[0].getParameterCount(), 0);
        Checks.due("constructor is public", Modifier.isPublic(constructors[0].getModifiers()), true);
        Checks.end("FaceTest");
    }

    private static String signature(Method method) {
        String[] parameters = Arrays.stream(method.getParameterTypes()).map(Class::getName).toArray(String[]::new);
        String[] thrown = Arrays.stream(method.getExceptionTypes()).map(Class::getSimpleName).toArray(String[]::new);
        return method.getReturnType().getName() + " " + method.getName()
                + "(" + String.join(",", parameters) + ") " + Arrays.toString(thrown);
    }
}
