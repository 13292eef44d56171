import java.io.IOException;
import java.lang.reflect.Constructor;
import java.lang.reflect.Field;
import java.lang.reflect.Method;
import java.lang.reflect.Modifier;
import java.nio.file.Files;
import java.nio.file.Path;
import java.util.ArrayList;
import java.util.Arrays;
import java.util.List;
import java.util.TreeSet;
import java.util.regex.Pattern;

/** The public face as the document has it, and those rules of LANGUAGE.md that a glance at the source can tell. */
public final class PlateauBenchFace {
    private static final String DOCUMENT = "../shared/DOC.md";
    private static final String SOURCE = "src/main/java/PlateauBench.java";
    private static final String[] BARRED = {
        "->", "::", "\\bimport\\b", "\\bpackage\\b", "\\bsynchronized\\b", "\\bassert\\b", "\\bfinally\\b", "\\bcatch\\b",
        "\\btry\\b", "\\binstanceof\\b", "\\bSystem\\.(?!arraycopy)", "\\bThread\\b", "Exception\\(\\)\\s*;\\s*\\{", "\\bvar\\b",
        "Math\\.\\w+Exact", "\\b_\\b", "\\d_\\d", "\\bhashCode\\b", "\\bequals\\b", "\\btoString\\b", "\\bdouble\\b",
    };

    private PlateauBenchFace() {
    }

    public static void main(String[] args) throws IOException, ReflectiveOperationException {
        methodsAreTheDocuments();
        othersArePrivate();
        constants();
        String source = Files.readString(Path.of(SOURCE));
        for (String barred : BARRED) {
            String code = source.replaceAll("/\\*.*?\\*/|//[^\n]*|\"[^\"\n]*\"", " ");
            Check.due(barred + " in the source", Pattern.compile(barred).matcher(code).find(), false);
        }
        Check.due("signs beyond 127", source.chars().anyMatch(c -> c > 127), false);
        methodsAreShort(source);
        Check.end();
    }

    private static void methodsAreTheDocuments() throws IOException {
        List<String> due = new ArrayList<>();
        boolean isFace = false;
        for (String line : Files.readAllLines(Path.of(DOCUMENT))) {
            isFace |= line.startsWith("```java");
            if (isFace && line.contains("(") && !line.contains("PlateauBench(")) {
                due.add(line.trim().replaceAll("(int|long|boolean) \\w+([,)])", "$1$2").replace("public ", "").replace(";", ""));
            }
            isFace &= !line.equals("```");
        }
        Check.due("methods in the document", due.size(), 27);
        TreeSet<String> is = new TreeSet<>();
        for (Method method : PlateauBench.class.getDeclaredMethods()) {
            if (Modifier.isPublic(method.getModifiers())) {
                is.add(signature(method));
            }
        }
        Check.due("the public methods", is, new TreeSet<>(due));
    }

    private static String signature(Method method) {
        StringBuilder text = new StringBuilder(method.getReturnType().getName() + " " + method.getName() + "(");
        for (Class<?> type : method.getParameterTypes()) {
            text.append(text.charAt(text.length() - 1) == '(' ? "" : ", ").append(type.getName());
        }
        text.append(")");
        for (Class<?> type : method.getExceptionTypes()) {
            text.append(text.indexOf("throws") < 0 ? " throws " : ", ").append(type.getSimpleName());
        }
        return text.toString();
    }

    private static void othersArePrivate() {
        int ofClass = PlateauBench.class.getModifiers();
        Check.due("public and final", Modifier.isPublic(ofClass) && Modifier.isFinal(ofClass), true);
        TreeSet<String> names = new TreeSet<>();
        for (Method method : PlateauBench.class.getDeclaredMethods()) {
            int is = method.getModifiers();
            Check.due(method + " is public or private", Modifier.isPublic(is) || Modifier.isPrivate(is), true);
            Check.due(method + " bears a name of its own", names.add(method.getName()), true);
        }
        Constructor<?>[] constructors = PlateauBench.class.getDeclaredConstructors();
        Check.due("constructors", constructors.length, 1);
        Check.due("the constructor is public", Modifier.isPublic(constructors[0].getModifiers()), true);
        Class<?>[] inside = PlateauBench.class.getDeclaredClasses();
        Check.due("classes inside are static and not public",
            Arrays.stream(inside).allMatch(c -> Modifier.isStatic(c.getModifiers()) && !Modifier.isPublic(c.getModifiers())), true);
        Check.due("no more than eleven of them", inside.length <= 11, true);
        for (Class<?> one : inside) {
            for (Method method : one.getDeclaredMethods()) {
                Check.due(method + " bears no name of the face", names.contains(method.getName()), false);
            }
            Check.due("some twenty fields in " + one, one.getDeclaredFields().length <= 20, true);
        }
    }

    private static void constants() throws ReflectiveOperationException {
        String[] due = {"NONE -1", "ACROSS 0", "DOWN 1", "FREE 0", "INSIDE 1", "OUTSIDE 2"};
        List<String> is = new ArrayList<>();
        for (Field field : PlateauBench.class.getDeclaredFields()) {
            int modifiers = field.getModifiers();
            Check.due(field + " is final", Modifier.isFinal(modifiers), true);
            if (!Modifier.isPrivate(modifiers)) {
                Check.due(field + " is a constant", Modifier.isPublic(modifiers) && Modifier.isStatic(modifiers), true);
                is.add(field.getName() + " " + field.getInt(null));
            }
        }
        Check.due("the constants", is, Arrays.asList(due));
    }

    private static void methodsAreShort(String source) {
        int start = 0;
        int longest = 0;
        String[] lines = source.split("\n");
        for (int i = 0; i < lines.length; i++) {
            if (lines[i].matches(" {4}( {4})?\\S.*\\) (throws .*)?\\{")) {
                start = i;
            }
            if (lines[i].matches(" {4}( {4})?\\}")) {
                longest = Math.max(longest, i - start);
            }
        }
        Check.due("the longest method has 60 lines at most", longest > 0 && longest <= 60, true);
    }
}
