import java.io.IOException;
import java.lang.reflect.Constructor;
import java.lang.reflect.Field;
import java.lang.reflect.Method;
import java.lang.reflect.Modifier;
import java.nio.file.Files;
import java.nio.file.Path;
import java.util.Set;
import java.util.TreeSet;
import java.util.regex.Matcher;
import java.util.regex.Pattern;

/** The class has the document's face, as the document writes it, and nothing else that can be seen from outside. */
public final class FaceTest {
    private static final Pattern METHOD = Pattern.compile("public (int|long) (\\w+)\\((.*?)\\)( throws .*)?;");
    private static final Pattern CONSTANT = Pattern.compile("public static final int (\\w+) = (-?\\d+);");
    private static int wrong = 0;

    public static void main(String[] args) throws IOException, IllegalAccessException {
        Class<?> face = ThinSeries.class;
        String document = Files.readString(Path.of("../shared/DOC.md"));
        String told = document.substring(document.indexOf("```java"), document.indexOf("```", document.indexOf("```java") + 3));
        due("public and final", Modifier.isPublic(face.getModifiers()) && Modifier.isFinal(face.getModifiers()));
        due("methods", methodsOf(told), methodsOf(face));
        due("constants", constantsOf(told), constantsOf(face));
        privateOnes(face);
        Constructor<?>[] made = face.getDeclaredConstructors();
        due("one public constructor", made.length == 1 && Modifier.isPublic(made[0].getModifiers()) && made[0].getParameterCount() == 0);
        for (Class<?> inner : face.getDeclaredClasses()) {
            due("static, not public: " + inner, Modifier.isStatic(inner.getModifiers()) && !Modifier.isPublic(inner.getModifiers()));
        }
        System.out.println(wrong == 0 ? "the face is as told" : wrong + " things of the face are wrong");
        if (wrong != 0) {
            System.exit(1);
        }
    }

    private static Set<String> methodsOf(String told) {
        Set<String> found = new TreeSet<>();
        Matcher m = METHOD.matcher(told);
        while (m.find()) {
            String kinds = m.group(3).replaceAll("(\\w+) \\w+", "$1");
            found.add(m.group(1) + " " + m.group(2) + "(" + kinds + ")" + (m.group(4) == null ? "" : m.group(4)));
        }
        due("the document tells 25 methods, not " + found.size(), found.size() == 25);
        return found;
    }

    private static Set<String> methodsOf(Class<?> face) {
        Set<String> found = new TreeSet<>();
        for (Method m : face.getDeclaredMethods()) {
            if (!Modifier.isPrivate(m.getModifiers())) {
                found.add(m.getReturnType() + " " + m.getName() + "(" + names(m.getParameterTypes()) + ")"
                        + (m.getExceptionTypes().length == 0 ? "" : " throws " + names(m.getExceptionTypes())));
                due("public: " + m, Modifier.isPublic(m.getModifiers()) && !Modifier.isStatic(m.getModifiers()));
            }
        }
        return found;
    }

    private static String names(Class<?>[] kinds) {
        StringBuilder all = new StringBuilder();
        for (Class<?> kind : kinds) {
            all.append(all.length() == 0 ? "" : ", ").append(kind.getSimpleName());
        }
        return all.toString();
    }

    private static Set<String> constantsOf(String told) {
        Set<String> found = new TreeSet<>();
        Matcher m = CONSTANT.matcher(told);
        while (m.find()) {
            found.add(m.group(1) + " = " + m.group(2));
        }
        return found;
    }

    private static Set<String> constantsOf(Class<?> face) throws IllegalAccessException {
        Set<String> found = new TreeSet<>();
        for (Field f : face.getDeclaredFields()) {
            if (!Modifier.isPrivate(f.getModifiers())) {
                due("public, static and final: " + f, Modifier.isPublic(f.getModifiers()) && Modifier.isStatic(f.getModifiers()) && Modifier.isFinal(f.getModifiers()));
                found.add(f.getName() + " = " + f.get(null));
            }
        }
        return found;
    }

    private static void privateOnes(Class<?> face) {
        Set<String> publicNames = new TreeSet<>();
        for (Method m : face.getDeclaredMethods()) {
            if (Modifier.isPublic(m.getModifiers())) {
                publicNames.add(m.getName());
            }
        }
        for (Method m : face.getDeclaredMethods()) {
            due("a private one with a public name: " + m, !Modifier.isPrivate(m.getModifiers()) || !publicNames.contains(m.getName()));
        }
    }

    private static void due(String what, Set<String> want, Set<String> got) {
        for (String one : want) {
            due(what + ": there is no " + one, got.contains(one));
        }
        for (String one : got) {
            due(what + ": the document has no " + one, want.contains(one));
        }
    }

    private static void due(String what, boolean holds) {
        if (!holds) {
            wrong++;
            System.out.println("not so: " + what);
        }
    }
}
