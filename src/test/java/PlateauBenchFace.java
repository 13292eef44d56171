import java.io.IOException;
import java.lang.reflect.Constructor;
import java.lang.reflect.Field;
import java.lang.reflect.Method;
import java.lang.reflect.Modifier;
import java.nio.file.Files;
import java.nio.file.Path;
import java.util.ArrayList;
import java.util.Arrays;
import java.util.List;
import java.util.TreeSet;

/** The public face as the document has it, and nothing beside it. */
public final class PlateauBenchFace {
    private static final String DOCUMENT = "../shared/DOC.md";

    private PlateauBenchFace() {
    }

    public static void main(String[] args) throws IOException, ReflectiveOperationException {
        methodsAreTheDocuments();
        othersArePrivate();
        constants();
        Check.end();
    }

    private static void methodsAreTheDocuments() throws IOException {
        List<String> due = new ArrayList<>();
        boolean isFace = false;
        for (String line : Files.readAllLines(Path.of(DOCUMENT))) {
            isFace |= line.startsWith("```java");
            if (isFace && line.contains("(") && !line.contains("PlateauBench(")) {
                due.add(line.trim().replaceAll("(int|long|boolean) \\w+([,)])", "$1$2").replace("public ", "").replace(";", ""));
            }
            isFace &= !line.equals("```");
        }
        Check.due("methods in the document", due.size(), 27);
        TreeSet<String> is = new TreeSet<>();
        for (Method method : PlateauBench.class.getDeclaredMethods()) {
            if (Modifier.isPublic(method.getModifiers())) {
                is.add(signature(method));
            }
        }
        Check.due("the public methods", is, new TreeSet<>(due));
    }

    private static String signature(Method method) {
        StringBuilder text = new StringBuilder(method.getReturnType().getName() + " " + method.getName() + "(");
        for (Class<?> type : method.getParameterTypes()) {
            text.append(text.charAt(text.length() - 1) == '(' ? "" : ", ").append(type.getName());
        }
        text.append(")");
        for (Class<?> type : method.getExceptionTypes()) {
            text.append(text.indexOf("throws") < 0 ? " throws " : ", ").append(type.getSimpleName());
        }
        return text.toString();
    }

    private static void othersArePrivate() {
        int ofClass = PlateauBench.class.getModifiers();
        Check.due("public and final", Modifier.isPublic(ofClass) && Modifier.isFinal(ofClass), true);
        TreeSet<String> names = new TreeSet<>();
        for (Method method : PlateauBench.class.getDeclaredMethods()) {
            int is = method.getModifiers();
            Check.due(method + " is public or private", Modifier.isPublic(is) || Modifier.isPrivate(is), true);
            Check.due(method + " bears a name of its own", names.add(method.getName()), true);
        }
        Constructor<?>[] constructors = PlateauBench.class.getDeclaredConstructors();
        Check.due("constructors", constructors.length, 1);
        Check.due("the constructor is public", Modifier.isPublic(constructors[0].getModifiers()), true);
        Class<?>[] inside = PlateauBench.class.getDeclaredClasses();
        Check.due("classes inside are static and not public",
            Arrays.stream(inside).allMatch(c -> Modifier.isStatic(c.getModifiers()) && !Modifier.isPublic(c.getModifiers())), true);
        Check.due("no more than eleven of them", inside.length <= 11, true);
        for (Class<?> one : inside) {
            for (Method method : one.getDeclaredMethods()) {
                Check.due(method + " bears no name of the face", names.contains(method.getName()), false);
            }
            Check.due("some twenty fields in " + one, one.getDeclaredFields().length <= 20, true);
        }
    }

    private static void constants() throws ReflectiveOperationException {
        String[] due = {"NONE -1", "ACROSS 0", "DOWN 1", "FREE 0", "INSIDE 1", "OUTSIDE 2"};
        List<String> is = new ArrayList<>();
        for (Field field : PlateauBench.class.getDeclaredFields()) {
            int modifiers = field.getModifiers();
            Check.due(field + " is final", Modifier.isFinal(modifiers), true);
            if (!Modifier.isPrivate(modifiers)) {
                Check.due(field + " is a constant", Modifier.isPublic(modifiers) && Modifier.isStatic(modifiers), true);
                is.add(field.getName() + " " + field.getInt(null));
            }
        }
        Check.due("the constants", is, Arrays.asList(due));
    }
}
