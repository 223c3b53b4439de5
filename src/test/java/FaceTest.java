import java.lang.reflect.Constructor;
import java.lang.reflect.Field;
import java.lang.reflect.Method;
import java.lang.reflect.Modifier;
import java.util.Arrays;
import java.util.TreeSet;

/** The public face: each constant, the constructor and each method of the document, and no more. */
public final class FaceTest {
    private static final String METHODS = "setHeavy/1 make/2 link/3 follow/3 drop/1 begin/0 carry/1 lose/1"
            + " mend/1 undo/0 append/1 clearText/0 run/0 count/1 hook/1 copy/2 where/2 named/1 garbage/0"
            + " stepsLeft/0 freeThen/0";

    private static final Due due = new Due("Face");

    public static void main(String[] args) {
        due.same("INVALID_ARGUMENT", NamedMoves.INVALID_ARGUMENT, -1);
        due.same("ILLEGAL_STATE", NamedMoves.ILLEGAL_STATE, -2);
        due.same("CAPACITY_EXCEEDED", NamedMoves.CAPACITY_EXCEEDED, -3);
        due.same("NONE", NamedMoves.NONE, -9);
        due.holds("the class is public and final",
                (NamedMoves.class.getModifiers() & (Modifier.PUBLIC | Modifier.FINAL)) == 17);
        methods();
        others();
        due.end();
    }

    private static void methods() {
        TreeSet<String> open = new TreeSet<>();
        TreeSet<String> openNames = new TreeSet<>();
        for (Method method : NamedMoves.class.getDeclaredMethods()) {
            if (!Modifier.isPrivate(method.getModifiers())) {
                due.holds(method + " is public and not static", method.getModifiers() == Modifier.PUBLIC);
                due.holds(method + " answers an int", method.getReturnType() == int.class);
                open.add(method.getName() + "/" + method.getParameterCount());
                openNames.add(method.getName());
            }
        }
        due.holds("the methods are those of the document",
                open.equals(new TreeSet<>(Arrays.asList(METHODS.split(" ")))));
        for (Class<?> inner : NamedMoves.class.getDeclaredClasses()) {
            due.holds(inner + " is static and not public", Modifier.isStatic(inner.getModifiers())
                    && !Modifier.isPublic(inner.getModifiers()) && !Modifier.isProtected(inner.getModifiers()));
            for (Method method : inner.getDeclaredMethods()) {
                due.holds(method + " bears no name of the face", !openNames.contains(method.getName()));
            }
        }
    }

    private static void others() {
        int constants = 0;
        for (Field field : NamedMoves.class.getDeclaredFields()) {
            if (!Modifier.isPrivate(field.getModifiers())) {
                constants++;
            }
            due.holds(field + " is final if it is static",
                    !Modifier.isStatic(field.getModifiers()) || Modifier.isFinal(field.getModifiers()));
        }
        due.same("number of constants", constants, 4);
        Constructor<?>[] constructors = NamedMoves.class.getDeclaredConstructors();
        due.same("number of constructors", constructors.length, 1);
        due.same("parameters of the constructor", constructors[0].getParameterCount(), 0);
    }
}
