import java.io.IOException;
import java.lang.reflect.Constructor;
import java.lang.reflect.Field;
import java.lang.reflect.Method;
import java.lang.reflect.Modifier;
import java.nio.file.Files;
import java.nio.file.Path;
import java.util.ArrayList;
import java.util.List;
import java.util.Set;
import java.util.TreeSet;

/** The public face, the constants, and what of ../shared/LANGUAGE.md can be seen in the file. Its argument is the file. */
final class FaceTest {
    private static final Set<String> FACE = Set.of("append(int, int)", "readTree()", "set(int, int)", "value(int, int)",
            "tick(int)", "run(int)", "foresee()", "ticksToGo()", "abort()", "node(int, int)", "child(int, int)",
            "underWay(int)", "pending()", "trace(int, int)", "count(int)", "write()", "written(int)", "save()", "restore()");
    private static final String[] FORBIDDEN = {"throw", "throws", "try", "catch", "finally", "synchronized", "assert",
        "import", "package", "protected", "volatile", "native", "transient", "Object", "System.out", "hashCode", "toString",
        "equals", "Thread", "Random"};

    public static void main(String[] args) throws IOException {
        constants();
        members();
        file(Files.readAllLines(Path.of(args[0])));
        Check.end();
    }

    private static void constants() {
        Check.due("NONE", BehaviorRunner.NONE, -1001);
        Check.due("BAD_ARGUMENT", BehaviorRunner.BAD_ARGUMENT, -1002);
        Check.due("FULL", BehaviorRunner.FULL, -1003);
        Check.due("NO_TREE", BehaviorRunner.NO_TREE, -1004);
        Check.due("SUSPENDED", BehaviorRunner.SUSPENDED, 5);
    }

    private static void members() {
        Class<?> face = BehaviorRunner.class;
        Check.due("the class is public and final", face.getModifiers() & (Modifier.PUBLIC | Modifier.FINAL),
                Modifier.PUBLIC | Modifier.FINAL);
        Set<String> methods = new TreeSet<>();
        for (Method method : face.getDeclaredMethods()) {
            if (!Modifier.isPrivate(method.getModifiers()) && !method.isSynthetic()) {
                StringBuilder name = new StringBuilder(method.getName()).append('(');
                for (Class<?> type : method.getParameterTypes()) {
                    name.append(name.charAt(name.length() - 1) == '(' ? "" : ", ").append(type.getName());
                }
                methods.add(name.append(')').toString());
                Check.due("answer of " + name, method.getReturnType().getName(), "int");
            }
        }
        Check.due("methods", methods.toString(), new TreeSet<>(FACE).toString());
        Set<String> fields = new TreeSet<>();
        for (Field field : face.getDeclaredFields()) {
            if (!Modifier.isPrivate(field.getModifiers())) {
                fields.add(field.getName());
            }
            if (Modifier.isStatic(field.getModifiers())) {
                Check.due(field.getName() + " is final", Modifier.isFinal(field.getModifiers()) ? 1 : 0, 1);
            }
        }
        Check.due("fields", fields.toString(), "[BAD_ARGUMENT, FULL, NONE, NO_TREE, SUSPENDED]");
        Constructor<?>[] constructors = face.getDeclaredConstructors();
        Check.due("constructors", constructors.length, 1);
        Check.due("its parameters", constructors[0].getParameterCount(), 0);
        int classes = 1;
        for (Class<?> inner : face.getDeclaredClasses()) {
            classes++;
            Check.due(inner + " is static", Modifier.isStatic(inner.getModifiers()) ? 1 : 0, 1);
            Check.due(inner + " has some twenty fields", inner.getDeclaredFields().length <= 20 ? 1 : 0, 1);
            for (Method method : inner.getDeclaredMethods()) {
                Check.due(method + " has a name of the face", FACE.stream().anyMatch(
                        one -> one.startsWith(method.getName() + "(")) ? 1 : 0, 0);
            }
        }
        Check.due("some twelve classes", classes <= 12 ? 1 : 0, 1);
    }

    private static void file(List<String> lines) {
        List<String> found = new ArrayList<>();
        int begin = -1;
        for (int i = 0; i < lines.size(); i++) {
            String line = lines.get(i);
            String code = line.replaceAll("//.*|^ *\\*.*|/\\*\\*.*", "").replaceAll("\"[^\"]*\"", "\"\"");
            for (String word : FORBIDDEN) {
                if (code.matches(".*\\b" + word.replace(".", "\\.") + "\\b.*")) {
                    found.add(word + " in line " + (i + 1));
                }
            }
            if (code.contains("->") || code.contains("::") || code.matches(".*\\bstatic \\{.*|.*\" \\+.*|.*\\+ \".*")) {
                found.add("line " + (i + 1) + ": " + line);
            }
            if (code.matches(" {4,8}[A-Za-z].*\\) \\{") && !code.matches(" *(if|for|while|switch).*")) {
                begin = i;
            }
            if (begin >= 0 && i - begin > 60) {
                found.add("a long method from line " + (begin + 1));
                begin = -1;
            }
            if (code.matches(" {4,8}\\}")) {
                begin = -1;
            }
            if (line.length() > 120) {
                found.add("a long line " + (i + 1));
            }
        }
        Check.due("what the language rules out", found.toString(), "[]");
    }
}
