import java.lang.reflect.Constructor;
import java.lang.reflect.Executable;
import java.lang.reflect.Field;
import java.lang.reflect.Method;
import java.lang.reflect.Modifier;
import java.nio.file.Files;
import java.nio.file.Path;
import java.util.ArrayList;
import java.util.List;
import java.util.Set;
import java.util.regex.Matcher;
import java.util.regex.Pattern;

/** Rules of LANGUAGE.md, as far as the file's words and the compiled classes show them. */
public final class Rules {
    private static final Checks CHECKS = new Checks();
    private static final Set<String> TYPES = Set.of("int", "long", "boolean", "int[]", "long[]");

    // Rule 6 allows try in places; the class needs none, and without it catches nothing of the machine.
    private static final String[] NOT_WRITTEN = {
        "\\bpackage\\b", "\\bimport\\b", "\\btry\\b", "\\bcatch\\b", "\\bfinally\\b", "\\bsynchronized\\b",
        "\\bassert\\b", "\\bnative\\b", "->", "::", "Exact\\b", "\\bstatic\\s*\\{", "\\bdouble\\b", "\\bfloat\\b",
        "\\bequals\\b", "\\bhashCode\\b", "\\btoString\\b", "\\bjava\\.", "\\bSystem\\.", "\\bThread\\b",
        "\\bprotected\\b", "[^\\x00-\\xff]"};

    public static void main(String[] args) throws Exception {
        String code = withoutCommentsAndTexts(Files.readString(Path.of("src/main/java/TankLayers.java")));
        words(code);
        throwsAreWrittenOut(code);
        methodsAreShort(code);
        List<Class<?>> classes = new ArrayList<>(List.of(TankLayers.class));
        classes.addAll(List.of(TankLayers.class.getDeclaredClasses()));
        atMost("rule 11: classes", classes.size(), 12);
        for (Class<?> each : classes) {
            fields(each, classes);
            parameters(each);
            CHECKS.due("rule 2: classes inside " + each, each == TankLayers.class ? 0 : each.getDeclaredClasses().length, 0);
        }
        CHECKS.end();
    }

    private static void words(String code) {
        for (String each : NOT_WRITTEN) {
            CHECKS.due("places with " + each, Pattern.compile(each).matcher(code).results().count(), 0);
        }
        Matcher library = Pattern.compile("\\b(Math|Integer|Long|Arrays|String|StringBuilder|List|ArrayList)\\b(\\.\\w+)?")
            .matcher(code);
        while (library.find()) {
            boolean listed = library.group().matches("(Math|Integer|Long)\\.(compare|max|min|abs|bitCount|floorDiv|floorMod)");
            CHECKS.due("rule 4: " + library.group() + " is listed by its name", listed ? 1 : 0, 1);
        }
    }

    private static void throwsAreWrittenOut(String code) {
        long all = Pattern.compile("\\bthrow\\b").matcher(code).results().count();
        long plain = Pattern.compile("\\bthrow new Illegal(Argument|State)Exception\\(\"\"\\);").matcher(code).results().count();
        CHECKS.due("rule 6: throws in another form than its own", all - plain, 0);
    }

    /** The file's form helps: a body ends with the first brace that stands as far in as its head. */
    private static void methodsAreShort(String code) {
        Matcher body = Pattern.compile("(?m)^( {4}| {8})(?! )[^\\n;{}]*\\([^;{}]*\\{\\n(?s:.*?)\\n\\1\\}$").matcher(code);
        int found = 0;
        while (body.find()) {
            found++;
            String head = body.group().strip().lines().findFirst().orElse("");
            atMost("rule 11: lines of " + head, body.group().lines().count(), 60);
        }
        CHECKS.due("methods and constructors are found", found >= 50 ? 1 : 0, 1);
    }

    private static void fields(Class<?> each, List<Class<?>> classes) {
        int beside = 0;
        for (Field field : each.getDeclaredFields()) {
            Class<?> type = field.getType();
            boolean own = classes.contains(type) || type.isArray() && classes.contains(type.getComponentType());
            boolean isStatic = Modifier.isStatic(field.getModifiers());
            CHECKS.due("rule 3: type of " + field, own || TYPES.contains(type.getTypeName()) ? 1 : 0, 1);
            CHECKS.due("rule 5: static and not a final number: " + field,
                isStatic && !(Modifier.isFinal(field.getModifiers()) && type.isPrimitive()) ? 1 : 0, 0);
            beside += isStatic ? 0 : 1;
        }
        atMost("rule 11: fields of " + each, beside, 20);
    }

    private static void parameters(Class<?> each) {
        for (Method method : each.getDeclaredMethods()) {
            parameters(method);
        }
        for (Constructor<?> constructor : each.getDeclaredConstructors()) {
            parameters(constructor);
        }
    }

    private static void parameters(Executable each) {
        atMost("rule 11: parameters of " + each, each.getParameterCount(), 7);
    }

    private static void atMost(String what, long got, long most) {
        CHECKS.due(what + ": " + got + " is at most " + most, got <= most ? 1 : 0, 1);
    }

    private static String withoutCommentsAndTexts(String source) {
        return source.replaceAll("\"[^\"\\n]*\"", "\"\"").replaceAll("(?s)/\\*.*?\\*/", "").replaceAll("//[^\\n]*", "");
    }
}
