import java.lang.reflect.Constructor;
import java.lang.reflect.Field;
import java.lang.reflect.Method;
import java.lang.reflect.Modifier;
import java.util.Set;
import java.util.TreeSet;

/** The public face is the document's and nothing else can be seen from outside. */
public final class FaceTest {
    private static final Class<?> FACE = EnclosureCalculator.class;
    private static final Set<String> METHODS = Set.of(
        "boolean type(int)", "boolean erase()", "int length()", "int define(int)", "void clear()", "int parts(int)",
        "int evaluate(int,int,int)", "int compare(int,int,int,int)", "int work()", "int step()", "long low()",
        "long high()", "long decimal(int)");
    private static final Set<String> CONSTANTS = Set.of(
        "REFUSED=-1", "SYNTAX=-2", "UNKNOWN=-3", "FULL=-4", "NO_ANSWER=0", "DONE=1", "DOMAIN=2", "LESS=3", "GREATER=4",
        "CLOSE=5");

    public static void main(String[] args) throws ReflectiveOperationException {
        Check check = new Check();
        check.due("public final class", FACE.getModifiers(), Modifier.PUBLIC | Modifier.FINAL);
        check.due("no package", FACE.getPackageName().isEmpty(), true);
        check.due("methods " + methods(), methods().equals(METHODS), true);
        check.due("constants " + constants(), constants().equals(CONSTANTS), true);
        Constructor<?>[] constructors = FACE.getDeclaredConstructors();
        check.due("one constructor", constructors.length, 1);
        check.due("public constructor", constructors[0].getModifiers(), Modifier.PUBLIC);
        check.due("constructor without parameters", constructors[0].getParameterCount(), 0);
        insideClasses(check);
        check.end("FaceTest");
    }

    private static Set<String> methods() {
        Set<String> found = new TreeSet<>();
        for (Method method : FACE.getDeclaredMethods()) {
            if (!Modifier.isPrivate(method.getModifiers()) && !method.isSynthetic()) {
                found.add(method.toString().replace("EnclosureCalculator.", "").replaceFirst("^public ", ""));
            }
        }
        return found;
    }

    private static Set<String> constants() throws IllegalAccessException {
        int constant = Modifier.PUBLIC | Modifier.STATIC | Modifier.FINAL;
        Set<String> found = new TreeSet<>();
        for (Field field : FACE.getDeclaredFields()) {
            if (!Modifier.isPrivate(field.getModifiers())) {
                boolean fits = field.getModifiers() == constant && field.getType() == int.class;
                found.add(field.getName() + "=" + (fits ? field.getInt(null) : "?"));
            }
        }
        return found;
    }

    private static void insideClasses(Check check) {
        Set<String> names = new TreeSet<>();
        METHODS.forEach(method -> names.add(method.replaceAll(".* |\\(.*", "")));
        int classes = 1;
        for (Class<?> inside : FACE.getDeclaredClasses()) {
            classes++;
            int modifiers = inside.getModifiers();
            check.due(inside + " is static", Modifier.isStatic(modifiers), true);
            check.due(inside + " is seen outside", Modifier.isPublic(modifiers) || Modifier.isProtected(modifiers), false);
            for (Method method : inside.getDeclaredMethods()) {
                check.due(method + " bears a public name", names.contains(method.getName()), false);
                check.due(method + " has few parameters", method.getParameterCount() <= 7, true);
            }
        }
        for (Method method : FACE.getDeclaredMethods()) {
            boolean hidden = Modifier.isPrivate(method.getModifiers());
            check.due(method + " bears a public name", hidden && names.contains(method.getName()), false);
        }
        check.due("at most twelve classes", classes <= 12, true);
    }
}
