import java.io.IOException;
import java.lang.reflect.Array;
import java.lang.reflect.Constructor;
import java.lang.reflect.Field;
import java.lang.reflect.Method;
import java.lang.reflect.Modifier;
import java.nio.file.Files;
import java.nio.file.Path;
import java.util.ArrayList;
import java.util.IdentityHashMap;
import java.util.List;
import java.util.Map;
import java.util.Set;
import java.util.TreeSet;
import java.util.regex.Matcher;
import java.util.regex.Pattern;

/** What LANGUAGE.md asks of the class and a test can see, by its rules; run from the project's directory. */
final class LanguageTest {
    private static final Path SOURCE = Path.of("src/main/java/KeyPlan.java");
    private static final Set<String> MATH = Set.of("min", "max", "abs", "floorDiv", "floorMod");
    private static final int MOST_METHOD_LINES = 60;
    private static final int MOST_PARAMETERS = 7;
    private static final int MOST_CLASSES = 12;
    private static final int MOST_FIELDS = 20;
    // the room holds 600,000 objects and 7.3 million elements: a thousand plans at once stay far below
    private static final int MOST_OBJECTS = 60;
    private static final int MOST_ELEMENTS = 5_000;

    public static void main(String[] args) throws IOException, IllegalAccessException {
        String source = Files.readString(SOURCE);
        String code = withoutTexts(source);
        signs(source);
        words(code);
        library(code);
        methodLines(code);
        List<Class<?>> classes = new ArrayList<>(List.of(KeyPlan.class.getDeclaredClasses()));
        insideClasses(classes);
        classes.add(KeyPlan.class);
        Check.due("11: classes", classes.size() <= MOST_CLASSES, true);
        for (Class<?> one : classes) {
            members(one);
        }
        room();
        Check.end();
    }

    /** Comments and written texts left out, their lines kept. */
    private static String withoutTexts(String source) {
        String code = Pattern.compile("/\\*.*?\\*/", Pattern.DOTALL).matcher(source)
            .replaceAll(found -> found.group().replaceAll("[^\n]", ""));
        return code.replaceAll("//[^\n]*", "").replaceAll("\"[^\"\n]*\"", "\"\"");
    }

    private static void signs(String source) {
        Check.due("4: signs 1 to 127", source.chars().allMatch(sign -> sign >= 1 && sign <= 127), true);
    }

    private static void words(String code) {
        Check.due("no package line", code.startsWith("package") || code.contains("\npackage"), false);
        String[] unwanted = {"->", "::", "finally", "synchronized", "assert", "yield", "hashCode", "toString",
            "getClass", "Exact", "static {", "var ", "double", "float", "while (true)", "for (;;)"};
        for (String word : unwanted) {
            Check.due("2, 6, 9: without " + word, code.contains(word), false);
        }
        String[] machines = {"ArrayIndexOutOfBounds", "NullPointer", "ClassCast", "NegativeArraySize", "ArrayStore",
            "catch"};
        for (String word : machines) {
            Check.due("7: without " + word, code.contains(word), false);
        }
        Matcher thrown = Pattern.compile("throw ([^;]*);").matcher(code);
        while (thrown.find()) {
            Check.due("6: throws " + thrown.group(), thrown.group(1).equals("new NoSuchElementException(\"\")"), true);
        }
    }

    private static void library(String code) {
        Matcher imported = Pattern.compile("import ([^;]*);").matcher(code);
        while (imported.find()) {
            Check.due("4: imports " + imported.group(1),
                imported.group(1).equals("java.util.NoSuchElementException"), true);
        }
        Check.due("4: no other class by its whole name", code.replaceAll("import [^;]*;", "").contains("java."), false);
        Matcher called = Pattern.compile("\\b(Math|System|Arrays|Integer|Long|Thread|Runtime)\\.(\\w+)").matcher(code);
        while (called.find()) {
            boolean known = called.group(1).equals("Math") && MATH.contains(called.group(2));
            Check.due("4: calls " + called.group(), known, true);
        }
    }

    /** Methods begin at four or eight blanks, by which their last lines are found. */
    private static void methodLines(String code) {
        String[] lines = code.split("\n");
        int methods = 0;
        for (int from = 0; from < lines.length; from++) {
            boolean isMethod = lines[from].matches(" {4}( {4})?[A-Za-z].*\\) (throws \\w+ )?\\{");
            if (!isMethod) {
                continue;
            }
            methods++;
            String end = lines[from].substring(0, lines[from].length() - lines[from].stripLeading().length()) + "}";
            int to = from;
            while (to < lines.length && !lines[to].equals(end)) {
                to++;
            }
            Check.due("11: lines of " + lines[from].strip(), to - from + 1 <= MOST_METHOD_LINES, true);
        }
        Check.due("11: methods were found", methods > 27, true);
    }

    private static void insideClasses(List<Class<?>> classes) {
        for (Class<?> one : classes) {
            int modifiers = one.getModifiers();
            Check.due("1: neither public nor protected: " + one,
                Modifier.isPublic(modifiers) || Modifier.isProtected(modifiers), false);
            Check.due("1: static: " + one, Modifier.isStatic(modifiers), true);
            Check.due("2: none inside: " + one, one.getDeclaredClasses().length, 0);
        }
    }

    private static void members(Class<?> one) {
        Set<String> face = new TreeSet<>();
        for (Method method : KeyPlan.class.getMethods()) {
            face.add(method.getName());
        }
        for (Method method : one.getDeclaredMethods()) {
            Check.due("11: parameters of " + method, method.getParameterCount() <= MOST_PARAMETERS, true);
            boolean ofFace = one == KeyPlan.class && Modifier.isPublic(method.getModifiers());
            Check.due("1: a name of its own: " + method, !ofFace && face.contains(method.getName()), false);
            Check.due("2: nothing that the compiler adds: " + method, method.isSynthetic(), false);
        }
        for (Constructor<?> constructor : one.getDeclaredConstructors()) {
            Check.due("2: nothing that the compiler adds: " + constructor, constructor.isSynthetic(), false);
        }
        int fields = 0;
        for (Field field : one.getDeclaredFields()) {
            boolean isStatic = Modifier.isStatic(field.getModifiers());
            boolean isConstant = Modifier.isFinal(field.getModifiers()) && field.getType() == int.class;
            Check.due("5: a constant: " + field, !isStatic || isConstant, true);
            fields += isStatic ? 0 : 1;
        }
        Check.due("11: fields of " + one, fields <= MOST_FIELDS, true);
    }

    /** A new object is small, and calls of every kind add nothing that stays. */
    private static void room() throws IllegalAccessException {
        KeyPlan x = Scene.full().make();
        int[] full = held(x);
        int[] fresh = held(new KeyPlan());
        Check.due("12: objects of a new one", fresh[0] <= MOST_OBJECTS, true);
        Check.due("12: fields and elements of a new one", fresh[1] <= MOST_ELEMENTS, true);
        Check.due("12: objects of a full one", full[0], fresh[0]);
        Check.due("12: fields and elements of a full one", full[1], fresh[1]);
    }

    /** How many objects and arrays one holds, and how many fields and elements these have. */
    private static int[] held(Object root) throws IllegalAccessException {
        Map<Object, Boolean> seen = new IdentityHashMap<>();
        List<Object> found = new ArrayList<>();
        note(root, seen, found);
        int elements = 0;
        for (int i = 0; i < found.size(); i++) {
            Object one = found.get(i);
            elements += one.getClass().isArray() ? elementsOf(one, seen, found) : fieldsOf(one, seen, found);
        }
        return new int[] {found.size(), elements};
    }

    private static void note(Object one, Map<Object, Boolean> seen, List<Object> found) {
        if (one != null && seen.put(one, true) == null) {
            found.add(one);
        }
    }

    private static int elementsOf(Object array, Map<Object, Boolean> seen, List<Object> found) {
        int length = Array.getLength(array);
        for (int i = 0; i < length && !array.getClass().getComponentType().isPrimitive(); i++) {
            note(Array.get(array, i), seen, found);
        }
        return length;
    }

    private static int fieldsOf(Object one, Map<Object, Boolean> seen, List<Object> found)
        throws IllegalAccessException {
        int fields = 0;
        for (Field field : one.getClass().getDeclaredFields()) {
            if (Modifier.isStatic(field.getModifiers())) {
                continue;
            }
            fields++;
            field.setAccessible(true);
            if (!field.getType().isPrimitive()) {
                note(field.get(one), seen, found);
            }
        }
        return fields;
    }
}
