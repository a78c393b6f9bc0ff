import java.lang.reflect.Constructor;
import java.lang.reflect.Executable;
import java.lang.reflect.Field;
import java.lang.reflect.Method;
import java.lang.reflect.Modifier;
import java.util.Arrays;
import java.util.HashSet;
import java.util.Set;
import java.util.TreeSet;

/** The public face of the document, and no other member that can be seen from outside. */
public final class Face {
    private static final String[] METHODS = {
        "int tank(int, int) IllegalArgumentException IllegalStateException",
        "int cold(int) IllegalArgumentException",
        "long charge(int, int, int, int) IllegalArgumentException",
        "long round(int, int, int) IllegalArgumentException",
        "int heat(int, int, int, int) IllegalArgumentException",
        "void loses(int, int, int, int) IllegalArgumentException",
        "void rod(int, int, int, int, int, int, int) IllegalArgumentException",
        "int draws(int, int, int) IllegalArgumentException IllegalStateException",
        "int run(int) IllegalArgumentException IllegalStateException",
        "int layers(int) IllegalArgumentException",
        "long layer(int, int, int) IllegalArgumentException",
        "long sensor(int, int) IllegalArgumentException",
        "int warm(int, int) IllegalArgumentException",
        "long told(int, int) IllegalArgumentException"};

    public static void main(String[] args) throws Exception {
        Checks checks = new Checks();
        Class<?> face = TankLayers.class;
        checks.due("the class is public and final", face.getModifiers() & (Modifier.PUBLIC | Modifier.FINAL),
            Modifier.PUBLIC | Modifier.FINAL);
        methods(checks, face);
        fields(checks, face);
        Constructor<?>[] constructors = face.getDeclaredConstructors();
        checks.due("constructors", constructors.length, 1);
        checks.due("the constructor is public", Modifier.isPublic(constructors[0].getModifiers()) ? 1 : 0, 1);
        checks.due("the constructor takes nothing", constructors[0].getParameterCount(), 0);
        for (Class<?> inside : face.getDeclaredClasses()) {
            int modifiers = inside.getModifiers();
            checks.due(inside + " is static", Modifier.isStatic(modifiers) ? 1 : 0, 1);
            checks.due(inside + " is not public", Modifier.isPublic(modifiers) || Modifier.isProtected(modifiers) ? 1 : 0, 0);
        }
        checks.end();
    }

    private static void methods(Checks checks, Class<?> face) {
        Set<String> due = new TreeSet<>(Arrays.asList(METHODS));
        Set<String> names = new HashSet<>();
        for (String each : METHODS) {
            names.add(each.substring(each.indexOf(' ') + 1, each.indexOf('(')));
        }
        for (Method each : face.getDeclaredMethods()) {
            if (Modifier.isPrivate(each.getModifiers())) {
                checks.due("private " + each.getName() + " bears a public name", names.contains(each.getName()) ? 1 : 0, 0);
            } else {
                String written = each.getReturnType() + " " + each.getName() + written(each);
                checks.due(written + " is of the document", due.remove(written) ? 1 : 0, 1);
                checks.due(written + " is public alone", each.getModifiers(), Modifier.PUBLIC);
            }
        }
        checks.due("missing: " + due, due.size(), 0);
    }

    private static String written(Executable method) {
        StringBuilder text = new StringBuilder("(");
        for (Class<?> each : method.getParameterTypes()) {
            text.append(text.length() > 1 ? ", " : "").append(each.getName());
        }
        text.append(")");
        for (Class<?> each : method.getExceptionTypes()) {
            text.append(" ").append(each.getSimpleName());
        }
        return text.toString();
    }

    private static void fields(Checks checks, Class<?> face) {
        for (Field each : face.getDeclaredFields()) {
            int modifiers = each.getModifiers();
            boolean isNone = each.getName().equals("NONE");
            checks.due(each + " can be seen", Modifier.isPrivate(modifiers) ? 0 : 1, isNone ? 1 : 0);
            checks.due(each + " is static but not final",
                Modifier.isStatic(modifiers) && !Modifier.isFinal(modifiers) ? 1 : 0, 0);
        }
        checks.due("NONE", TankLayers.NONE, -1);
    }
}
