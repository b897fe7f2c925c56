import java.lang.reflect.Constructor;
import java.lang.reflect.Field;
import java.lang.reflect.Method;
import java.lang.reflect.Modifier;
import java.util.Arrays;
import java.util.Set;
import java.util.TreeSet;

/** The class shows the document's face and nothing else, and keeps to the rules of LANGUAGE.md that reflection can see. */
public final class FaceTest {
    private static final String[] FACE = {
        "int feed(int,int,int,int,int)", "boolean end(int)", "int town()", "int fault()", "int pain(int,int)",
        "int person(int,int)", "int porter(int,int)", "int sort(int,int)", "int now(int)", "int fetch(int,int)",
        "int hand(int,int,int)", "int drop(int,int)", "int home(int)", "int hours(int)", "int undo()",
        "int can(int,int)", "int free(int,int)", "int by(int)", "int fewest(int)", "int load(int)", "int limps()",
        "int surely(int)", "int ask()", "int share(int,int)", "int rest()", "int fee(int)", "int unharmed(int,int)",
        "int ease(int)", "int later(int,int)", "int lasts(int)", "int cheapest(int)", "int hopeless()",
        "int drawn(int,int)", "int odds(int,int,int)", "int log(int)", "int logged(int)", "int sentence()",
        "int said(int)", "boolean image(int)", "boolean restore(int)", "int count(int)"};

    private static int wrong = 0;

    private static void check(boolean good, String what) {
        if (!good) {
            wrong++;
            System.out.println("FaceTest: " + what);
        }
    }

    private static String told(Method m) {
        StringBuilder text = new StringBuilder(m.getReturnType().getName() + " " + m.getName() + "(");
        for (int i = 0; i < m.getParameterCount(); i++) {
            text.append(i == 0 ? "" : ",").append(m.getParameterTypes()[i].getName());
        }
        return text.append(")").toString();
    }

    public static void main(String[] args) {
        Class<?> face = PainPorters.class;
        check(Modifier.isPublic(face.getModifiers()) && Modifier.isFinal(face.getModifiers()), "public and final");
        Set<String> names = new TreeSet<>();
        Set<String> shown = new TreeSet<>();
        for (Method m : face.getDeclaredMethods()) {
            if (Modifier.isPublic(m.getModifiers())) {
                shown.add(told(m));
                names.add(m.getName());
                check(!Modifier.isStatic(m.getModifiers()), told(m) + " is static");
            }
        }
        check(shown.equals(new TreeSet<>(Arrays.asList(FACE))), "the public methods are " + shown);
        for (Method m : face.getDeclaredMethods()) {
            if (!Modifier.isPublic(m.getModifiers())) {
                check(Modifier.isPrivate(m.getModifiers()) || m.isSynthetic(), m + " is to be seen");
                check(!names.contains(m.getName()), m + " bears a public name");
            }
        }
        for (Field f : face.getDeclaredFields()) {
            check(Modifier.isPrivate(f.getModifiers()) || f.getName().equals("NONE") || f.isSynthetic(), f + " is to be seen");
            check(!Modifier.isStatic(f.getModifiers()) || Modifier.isFinal(f.getModifiers()), f + " is not final");
        }
        Constructor<?>[] made = face.getDeclaredConstructors();
        check(made.length == 1 && made[0].getParameterCount() == 0 && Modifier.isPublic(made[0].getModifiers()),
                "one public constructor without parameters");
        check(PainPorters.NONE == -1, "NONE is -1");
        Class<?>[] inside = face.getDeclaredClasses();
        check(inside.length <= 12, "more than twelve classes");
        for (Class<?> c : inside) {
            check(Modifier.isStatic(c.getModifiers()) && !Modifier.isPublic(c.getModifiers()), c + " is not static or public");
            for (Method m : c.getDeclaredMethods()) {
                check(!names.contains(m.getName()), m + " bears a public name");
                check(m.getParameterCount() <= 7, m + " takes more than seven");
            }
        }
        System.out.println(wrong == 0 ? "the face is as told" : wrong + " faults of the face");
        if (wrong != 0) {
            System.exit(1);
        }
    }
}
