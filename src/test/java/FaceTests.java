import java.lang.reflect.Constructor;
import java.lang.reflect.Method;
import java.lang.reflect.Modifier;
import java.util.Arrays;
import java.util.TreeSet;

/** The class has the document's face and shows nothing else. */
public final class FaceTests {

    private static final String INDEX = "IndexOutOfBoundsException";
    private static final String ARGUMENT = "IllegalArgumentException";
    private static final String STATE = "IllegalStateException";

    public static void main(String[] args) {
        Due.is("the class is public and final", Modifier.toString(Stormroof.class.getModifiers()), "public final");
        TreeSet<String> methods = new TreeSet<>();
        for (Method method : Stormroof.class.getDeclaredMethods()) {
            if (!Modifier.isPrivate(method.getModifiers())) {
                methods.add(told(method));
            }
        }
        Due.is("methods", methods, new TreeSet<>(Arrays.asList(
                face("begin", 5, ARGUMENT), face("place", 1, INDEX, STATE), face("raise", 2, INDEX, ARGUMENT, STATE),
                face("onTurn", 0), face("winner", 0), face("height", 1, INDEX), face("builderAt", 1, INDEX),
                face("played", 0), face("turnCount", 0, STATE), face("turnAt", 1, INDEX, STATE),
                face("play", 1, STATE), face("takeBack", 0, STATE), face("worth", 1, ARGUMENT, STATE),
                face("best", 1, ARGUMENT, STATE), face("reached", 1, INDEX))));
        Constructor<?>[] constructors = Stormroof.class.getDeclaredConstructors();
        Due.is("constructors", constructors.length, 1);
        Due.is("constructor", constructors[0].toString(), "public Stormroof()");
        Due.is("fields shown", Arrays.stream(Stormroof.class.getDeclaredFields())
                .filter(field -> !Modifier.isPrivate(field.getModifiers())).count(), 0L);
        Due.end();
    }

    private static String face(String name, int parameters, String... thrown) {
        return "public int " + name + " " + parameters + " ints " + Arrays.asList(thrown);
    }

    private static String told(Method method) {
        boolean takesInts = Arrays.stream(method.getParameterTypes()).allMatch(type -> type == int.class);
        String[] thrown = Arrays.stream(method.getExceptionTypes()).map(Class::getSimpleName).toArray(String[]::new);
        return Modifier.toString(method.getModifiers()) + " " + method.getReturnType() + " " + method.getName() + " "
                + method.getParameterCount() + (takesInts ? " ints " : " others ") + Arrays.asList(thrown);
    }
}
