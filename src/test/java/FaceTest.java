import java.lang.reflect.Constructor;
import java.lang.reflect.Field;
import java.lang.reflect.Method;
import java.lang.reflect.Modifier;
import java.util.ArrayList;
import java.util.Arrays;
import java.util.List;
import java.util.TreeSet;

/** The public face is the document's, with no other member that is not private (rules 1 and 5 of LANGUAGE.md). */
final class FaceTest {
    private static final String INDEX = " IndexOutOfBoundsException";
    private static final String ARGUMENT = " IllegalArgumentException";
    private static final String STATE = " IllegalStateException";
    private static final List<String> FACE = List.of(
            "int addTide(int,int)" + ARGUMENT + STATE,
            "int height(int)" + ARGUMENT,
            "int setWater(int,int)" + ARGUMENT,
            "int addBerth(int,int)" + ARGUMENT + STATE,
            "int addShip(int,int)" + ARGUMENT + STATE,
            "int load(int,int)" + INDEX + ARGUMENT,
            "int addPilot(int,boolean)" + ARGUMENT + STATE,
            "int setTugs(int)" + ARGUMENT + STATE,
            "int count(int)" + INDEX,
            "int need(int)" + INDEX,
            "int window(int,int,int)" + INDEX + ARGUMENT,
            "int least(int)" + INDEX + STATE,
            "int earliest(int,int,int)" + INDEX + ARGUMENT,
            "int book(int,int,int)" + INDEX + ARGUMENT + STATE,
            "int cancel()" + STATE,
            "int passage(int,int)" + INDEX,
            "int occupant(int,int)" + INDEX + ARGUMENT,
            "int freeTugs(int)" + ARGUMENT,
            "int trips(int)" + INDEX,
            "boolean isInPort(int)" + INDEX,
            "double delay()",
            "long digest()");

    private FaceTest() {
    }

    private static String told(Method method) {
        StringBuilder text = new StringBuilder();
        text.append(method.getReturnType().getName()).append(' ').append(method.getName()).append('(');
        List<String> parameters = new ArrayList<>();
        for (Class<?> type : method.getParameterTypes()) {
            parameters.add(type.getName());
        }
        text.append(String.join(",", parameters)).append(')');
        for (Class<?> type : method.getExceptionTypes()) {
            text.append(' ').append(type.getSimpleName());
        }
        return text.toString();
    }

    private static void methods() {
        TreeSet<String> open = new TreeSet<>();
        TreeSet<String> openNames = new TreeSet<>();
        for (Method method : PilotBook.class.getDeclaredMethods()) {
            if (!Modifier.isPrivate(method.getModifiers()) && !method.isSynthetic()) {
                open.add(told(method));
                openNames.add(method.getName());
            }
        }
        Check.same("the methods that are not private", open.toString(), new TreeSet<>(FACE).toString());
        for (Method method : PilotBook.class.getDeclaredMethods()) {
            boolean isHidden = Modifier.isPrivate(method.getModifiers());
            Check.same(method + " bears a public name", isHidden && openNames.contains(method.getName()), false);
        }
    }

    private static void classItself() {
        Check.same("modifiers", PilotBook.class.getModifiers(), Modifier.PUBLIC | Modifier.FINAL);
        Constructor<?>[] constructors = PilotBook.class.getDeclaredConstructors();
        Check.same("constructors", constructors.length, 1);
        Check.same("a public constructor", constructors[0].getModifiers(), Modifier.PUBLIC);
        Check.same("its parameters", constructors[0].getParameterCount(), 0);
    }

    private static void fields() {
        List<Class<?>> classes = new ArrayList<>(Arrays.asList(PilotBook.class.getDeclaredClasses()));
        classes.add(PilotBook.class);
        for (Class<?> one : classes) {
            for (Field field : one.getDeclaredFields()) {
                int modifiers = field.getModifiers();
                boolean isOpen = one == PilotBook.class && !field.isSynthetic() && !Modifier.isPrivate(modifiers);
                Check.same(field + " of PilotBook is open", isOpen, false);
                Check.same(field + " is static state",
                        Modifier.isStatic(modifiers) && !Modifier.isFinal(modifiers), false);
            }
        }
    }

    public static void main(String[] args) {
        methods();
        classItself();
        fields();
        Check.end();
    }
}
