import java.lang.reflect.Constructor;
import java.lang.reflect.Field;
import java.lang.reflect.Method;
import java.lang.reflect.Modifier;
import java.util.Set;
import java.util.TreeSet;

/** The public face: just the constants, the constructor and the methods of the document. */
final class FaceTest {
    private static final String[] METHODS = {
        "int context(int)", "int bind(int,int,int)", "int has(int,int)", "int means(int,int)",
        "int fight(int,int,int)", "int fights(int)", "boolean patience(int)", "boolean go(int)",
        "int type(int,int)", "int settle(int)", "int out(int,int)", "boolean stretch(int,int)",
        "boolean uses(int,int)", "boolean habit(int,int,int)", "int want(int,int)", "int offer(int)",
        "void clear()", "int cheapest()", "int assigned(int)", "int broken()", "int apply()", "void keep()",
        "int change(int,int)", "int back()", "int learn(int)", "int saves(int)", "int count(int)"};

    public static void main(String[] args) throws ReflectiveOperationException {
        Check.due("NONE", KeyPlan.NONE, -1);
        Check.due("FREE", KeyPlan.FREE, 40);
        int type = KeyPlan.class.getModifiers();
        Check.due("public and final", Modifier.isPublic(type) && Modifier.isFinal(type), true);
        constructors();
        fields();
        methods();
        Check.end();
    }

    private static void constructors() {
        Constructor<?>[] constructors = KeyPlan.class.getDeclaredConstructors();
        Check.due("constructors", constructors.length, 1);
        Check.due("parameters", constructors[0].getParameterCount(), 0);
        Check.due("a public constructor", Modifier.isPublic(constructors[0].getModifiers()), true);
    }

    private static void fields() {
        for (Field field : KeyPlan.class.getDeclaredFields()) {
            boolean told = field.getName().equals("NONE") || field.getName().equals("FREE");
            Check.due("public: " + field, Modifier.isPublic(field.getModifiers()), told);
            Check.due("private: " + field, Modifier.isPrivate(field.getModifiers()), !told);
            if (Modifier.isStatic(field.getModifiers())) {
                Check.due("final: " + field, Modifier.isFinal(field.getModifiers()), true);
            }
        }
    }

    private static void methods() throws NoSuchMethodException {
        Set<String> told = new TreeSet<>(Set.of(METHODS));
        Set<String> names = new TreeSet<>();
        for (String method : told) {
            names.add(method.substring(method.indexOf(' ') + 1, method.indexOf('(')));
        }
        for (Method method : KeyPlan.class.getDeclaredMethods()) {
            if (Modifier.isPrivate(method.getModifiers())) {
                Check.due("a private name of its own: " + method, names.contains(method.getName()), false);
            } else {
                Check.due("told: " + method, told.remove(signature(method)), true);
                Check.due("public: " + method, Modifier.isPublic(method.getModifiers()), true);
                Check.due("static: " + method, Modifier.isStatic(method.getModifiers()), false);
            }
        }
        Check.due("told but missing: " + told, told.size(), 0);
        Class<?>[] thrown = KeyPlan.class.getMethod("out", int.class, int.class).getExceptionTypes();
        Check.due("out names its exception", thrown.length == 1
            && thrown[0] == java.util.NoSuchElementException.class, true);
    }

    private static String signature(Method method) {
        StringBuilder text = new StringBuilder(method.getReturnType().getName());
        text.append(' ').append(method.getName()).append('(');
        String comma = "";
        for (Class<?> parameter : method.getParameterTypes()) {
            text.append(comma).append(parameter.getName());
            comma = ",";
        }
        return text.append(')').toString();
    }
}
