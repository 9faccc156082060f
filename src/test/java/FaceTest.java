import java.lang.reflect.Constructor;
import java.lang.reflect.Field;
import java.lang.reflect.Method;
import java.lang.reflect.Modifier;
import java.nio.file.Files;
import java.nio.file.Path;
import java.util.ArrayList;
import java.util.List;
import java.util.Set;
import java.util.TreeSet;

/** The class has just the face that the document tells, with the throws clauses in their order. */
public final class FaceTest {
    public static void main(String[] args) throws Exception {
        String text = Files.readString(Path.of(args[0], "..", "shared", "DOC.md"));
        int from = text.indexOf("```java");
        String[] lines = text.substring(from, text.indexOf("```", from + 7)).split("\n");
        Set<String> due = new TreeSet<>();
        for (String line : lines) {
            if (line.startsWith("    public ")) {
                due.add(line.trim().replaceAll(" = -1;$", ";"));
            }
        }
        Set<String> got = faceOf(Layerboard.class);
        int wrong = tellMissing("missing", due, got) + tellMissing("not in the document", got, due);
        if (!Modifier.isFinal(Layerboard.class.getModifiers()) || !Modifier.isPublic(Layerboard.class.getModifiers())) {
            System.out.println("the class is not public and final");
            wrong++;
        }
        if (Layerboard.NONE != -1) {
            System.out.println("NONE is " + Layerboard.NONE);
            wrong++;
        }
        System.out.println("FaceTest: " + due.size() + " members, " + wrong + " wrong");
        System.exit(wrong == 0 && due.size() > 50 ? 0 : 1);
    }

    private static int tellMissing(String what, Set<String> all, Set<String> in) {
        int count = 0;
        for (String s : all) {
            if (!in.contains(s)) {
                System.out.println(what + ": " + s);
                count++;
            }
        }
        return count;
    }

    private static Set<String> faceOf(Class<?> c) {
        Set<String> all = new TreeSet<>();
        for (Field f : c.getDeclaredFields()) {
            if (!Modifier.isPrivate(f.getModifiers())) {
                all.add(Modifier.toString(f.getModifiers()) + " " + f.getType().getSimpleName() + " " + f.getName() + ";");
            }
        }
        for (Constructor<?> k : c.getDeclaredConstructors()) {
            if (!Modifier.isPrivate(k.getModifiers())) {
                all.add(Modifier.toString(k.getModifiers()) + " " + c.getSimpleName() + "();");
            }
        }
        for (Method m : c.getDeclaredMethods()) {
            if (!Modifier.isPrivate(m.getModifiers()) && !m.isSynthetic()) {
                all.add(told(m));
            }
        }
        return all;
    }

    private static String told(Method m) {
        List<String> params = new ArrayList<>();
        for (var p : m.getParameters()) {
            params.add(p.getType().getSimpleName() + " " + p.getName());
        }
        List<String> thrown = new ArrayList<>();
        for (Class<?> t : m.getExceptionTypes()) {
            thrown.add(t.getSimpleName());
        }
        return Modifier.toString(m.getModifiers()) + " " + m.getReturnType().getSimpleName() + " " + m.getName() + "("
                + String.join(", ", params) + ")" + (thrown.isEmpty() ? "" : " throws " + String.join(", ", thrown)) + ";";
    }
}
