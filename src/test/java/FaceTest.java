import java.lang.reflect.Constructor;
import java.lang.reflect.Field;
import java.lang.reflect.Method;
import java.lang.reflect.Modifier;
import java.nio.file.Files;
import java.nio.file.Path;
import java.util.Set;
import java.util.TreeSet;

/** The public members of the class are those that the document's face tells, and no others. */
public final class FaceTest {
    public static void main(String[] args) throws Exception {
        Set<String> due = new TreeSet<>();
        for (String line : Files.readAllLines(Path.of("../shared/DOC.md"))) {
            if (line.startsWith("    public ")) {
                due.add(line.trim().replaceAll("^public |;$", "").replaceAll("(int|boolean|long) \\w+([,)])", "$1$2"));
            }
        }
        Set<String> got = new TreeSet<>();
        Class<?> face = ReasonsSupplied.class;
        for (Field f : face.getDeclaredFields()) {
            if (!Modifier.isPrivate(f.getModifiers())) {
                got.add(Modifier.toString(f.getModifiers()).replace("public ", "") + " " + f.getType() + " " + f.getName() + " = " + f.get(null));
            }
        }
        for (Constructor<?> c : face.getDeclaredConstructors()) {
            got.add("ReasonsSupplied(" + parameters(c.getParameterTypes()) + ")");
        }
        for (Method m : face.getDeclaredMethods()) {
            if (!Modifier.isPrivate(m.getModifiers())) {
                got.add(m.getReturnType() + " " + m.getName() + "(" + parameters(m.getParameterTypes()) + ")" + exceptions(m));
            }
        }
        Check check = new Check("face");
        check.due("as many members: " + due + " and " + got, got.size(), due.size());
        for (String member : due) {
            check.due(member, got.contains(member), true);
        }
        check.due("a final class", Modifier.toString(face.getModifiers()).equals("public final"), true);
        check.end();
    }

    private static String exceptions(Method m) {
        StringBuilder all = new StringBuilder();
        for (Class<?> type : m.getExceptionTypes()) {
            all.append(" throws ").append(type.getSimpleName());
        }
        return all.toString();
    }

    private static String parameters(Class<?>[] types) {
        StringBuilder all = new StringBuilder();
        for (Class<?> type : types) {
            all.append(all.length() > 0 ? ", " : "").append(type);
        }
        return all.toString();
    }
}
