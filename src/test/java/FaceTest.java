import java.lang.reflect.Constructor;
import java.lang.reflect.Field;
import java.lang.reflect.Method;
import java.lang.reflect.Modifier;
import java.util.TreeSet;

/** The class has the document's public face and no other member that is seen from outside. */
public final class FaceTest {
    private static final String[] FACE = {
        "boolean round(int)", "int mode()", "int flags()", "int clear()", "int add(int,int)",
        "int subtract(int,int)", "int multiply(int,int)", "int divide(int,int)", "int root(int)",
        "int fused(int,int,int)", "int scale(int,int)", "int whole(int)", "int toInt(int)", "int fromInt(int)",
        "int compare(int,int)", "int next(int)", "int kind(int)",
    };

    public static void main(String[] args) {
        Checks checks = new Checks();
        int modifiers = RealBits.class.getModifiers();
        checks.due("public", Modifier.isPublic(modifiers) ? 1 : 0, 1);
        checks.due("final", Modifier.isFinal(modifiers) ? 1 : 0, 1);
        checks.due("constructors", RealBits.class.getDeclaredConstructors().length, 1);
        for (Constructor<?> made : RealBits.class.getDeclaredConstructors()) {
            checks.due("constructor() is public", Modifier.isPublic(made.getModifiers()) ? 1 : 0, 1);
            checks.due("constructor's parameters", made.getParameterCount(), 0);
        }
        checkMethods(checks);
        for (Field field : RealBits.class.getDeclaredFields()) {
            checks.due(field.getName() + " is private", Modifier.isPrivate(field.getModifiers()) ? 1 : 0, 1);
            boolean changes = Modifier.isStatic(field.getModifiers()) && !Modifier.isFinal(field.getModifiers());
            checks.due(field.getName() + " is static and changes", changes ? 1 : 0, 0);
        }
        checks.end("FaceTest");
    }

    private static void checkMethods(Checks checks) {
        TreeSet<String> missing = new TreeSet<>(java.util.List.of(FACE));
        TreeSet<String> publicNames = new TreeSet<>();
        TreeSet<String> privateNames = new TreeSet<>();
        for (Method method : RealBits.class.getDeclaredMethods()) {
            if (Modifier.isPrivate(method.getModifiers())) {
                privateNames.add(method.getName());
                continue;
            }
            publicNames.add(method.getName());
            String text = textOf(method);
            checks.due(text + " is in the document", missing.remove(text) ? 1 : 0, 1);
            checks.due(text + " is public", Modifier.isPublic(method.getModifiers()) ? 1 : 0, 1);
            checks.due(text + " is static", Modifier.isStatic(method.getModifiers()) ? 1 : 0, 0);
        }
        for (String text : missing) {
            checks.due(text + " is there", 0, 1);
        }
        privateNames.retainAll(publicNames);
        for (String name : privateNames) {
            checks.due(name + " is the name of a private method too", 1, 0);
        }
    }

    private static String textOf(Method method) {
        StringBuilder text = new StringBuilder(method.getReturnType() + " " + method.getName() + "(");
        for (Class<?> type : method.getParameterTypes()) {
            text.append(text.charAt(text.length() - 1) == '(' ? "" : ",").append(type);
        }
        return text.append(")").toString();
    }
}
