import java.lang.reflect.Constructor;
import java.lang.reflect.Field;
import java.lang.reflect.Method;
import java.lang.reflect.Modifier;
import java.util.Arrays;
import java.util.Set;
import java.util.TreeSet;

/** The class has the document's face and nothing else that can be seen from outside. */
public final class FaceTest {
    private static final String[] FACE = {
        "int at(int, int, int)", "int tell(int)", "int batch(int)", "int fault()", "int put(int, int, int)",
        "int tick(int, int)", "int drop(int)", "int sheet(int, int, int, int, int, int)", "int why(int)", "int count(int)",
        "int tier(int, int)", "int used(int)", "long of(int, int)", "int seam(int, int)", "int buckets(int, int)",
        "long bucket(int, int, int, int)", "long total(int, int, int, int)", "int gap(int, int, int, boolean)",
        "long bar(int, int, int, int)", "int alarms(int, int)", "int would(int, int, int)", "int until(int, int, int)",
        "long trend(int, int, int)", "int both(int, int, int)", "int feed(int, int, int, int, int)",
    };
    private static int wrong = 0;

    public static void main(String[] args) {
        Class<?> face = ThinSeries.class;
        due("public and final", Modifier.isPublic(face.getModifiers()) && Modifier.isFinal(face.getModifiers()));
        Set<String> want = new TreeSet<>(Arrays.asList(FACE));
        Set<String> got = new TreeSet<>();
        Set<String> publicNames = new TreeSet<>();
        for (Method m : face.getDeclaredMethods()) {
            if (!Modifier.isPrivate(m.getModifiers())) {
                String kinds = Arrays.toString(m.getParameterTypes());
                got.add(m.getReturnType() + " " + m.getName() + "(" + kinds.substring(1, kinds.length() - 1) + ")");
                publicNames.add(m.getName());
                due("public: " + m, Modifier.isPublic(m.getModifiers()) && !Modifier.isStatic(m.getModifiers()));
            }
        }
        due("methods " + got, got.equals(want));
        for (Method m : face.getDeclaredMethods()) {
            due("a private one with a public name: " + m, !Modifier.isPrivate(m.getModifiers()) || !publicNames.contains(m.getName()));
        }
        for (Field f : face.getDeclaredFields()) {
            boolean told = f.getName().equals("NONE") || f.getName().equals("EMPTY");
            due("field " + f, told == Modifier.isPublic(f.getModifiers()) && told != Modifier.isPrivate(f.getModifiers()));
            due("static and not final: " + f, !Modifier.isStatic(f.getModifiers()) || Modifier.isFinal(f.getModifiers()));
        }
        Constructor<?>[] made = face.getDeclaredConstructors();
        due("one public constructor", made.length == 1 && Modifier.isPublic(made[0].getModifiers()) && made[0].getParameterCount() == 0);
        for (Class<?> inner : face.getDeclaredClasses()) {
            due("static, not public: " + inner, Modifier.isStatic(inner.getModifiers()) && !Modifier.isPublic(inner.getModifiers()));
        }
        due("NONE", ThinSeries.NONE == -1);
        due("EMPTY", ThinSeries.EMPTY == -20000);
        System.out.println(wrong == 0 ? "the face is as told" : wrong + " things of the face are wrong");
        if (wrong != 0) {
            System.exit(1);
        }
    }

    private static void due(String what, boolean holds) {
        if (!holds) {
            wrong++;
            System.out.println("not so: " + what);
        }
    }
}
