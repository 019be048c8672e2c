import java.lang.reflect.Constructor;
import java.lang.reflect.Field;
import java.lang.reflect.Method;
import java.lang.reflect.Modifier;
import java.util.Set;
import java.util.TreeSet;

/** The public face of the document, and nothing beside it (LANGUAGE.md, rules 1, 5 and 11). */
public final class FaceTest {
    private static final Check CHECK = new Check("FaceTest");
    private static final String[] FACE = {
        "int beat(int)", "int rest()", "int song()", "int refrain(int)", "int beatAt(int,int)",
        "int hand(int,int,int,int)", "int late(int,int)", "int crew(int)", "int floor(int)", "int now(int)",
        "int pause(int)", "int haul(int,int,int,int)", "int won(int)", "int force(int)",
        "int task(int,int,int)", "int between(int)", "int plan()", "int planAt(int)",
        "int best(int,int,int,int)", "int word(int,int)", "long lines(int)", "int lineAt(int,long,int)",
        "int near(int)", "int nearAt(int,int)", "int mark(int,int)", "int wipe()",
        "int who(int,int,int,int)", "int two(int,int,int,int)", "int apart(int,int)", "int hangs(int)",
        "int tree()", "int count(int)", "long digest()"};

    public static void main(String[] args) {
        Class<?> face = HeaveSongs.class;
        CHECK.holds("public and final", face.getModifiers() == (Modifier.PUBLIC | Modifier.FINAL));
        methods(face);
        fields(face);
        Constructor<?>[] made = face.getDeclaredConstructors();
        CHECK.holds("one public constructor", made.length == 1 && made[0].getParameterCount() == 0
                && Modifier.isPublic(made[0].getModifiers()));
        classesInside(face);
        constants();
        CHECK.end();
    }

    private static void methods(Class<?> face) {
        Set<String> due = new TreeSet<>(Set.of(FACE));
        for (Method m : face.getDeclaredMethods()) {
            if (m.isSynthetic()) {
                continue;
            }
            if (Modifier.isPrivate(m.getModifiers())) {
                CHECK.holds(m + " bears no public name", !isPublicName(m.getName()));
            } else {
                CHECK.holds(m + " is of the face", due.remove(told(m)) && m.getModifiers() == Modifier.PUBLIC);
            }
        }
        CHECK.holds("all of the face is there: " + due, due.isEmpty());
    }

    private static String told(Method m) {
        StringBuilder of = new StringBuilder();
        for (Class<?> p : m.getParameterTypes()) {
            of.append(of.length() == 0 ? "" : ",").append(p.getName());
        }
        return m.getReturnType().getName() + " " + m.getName() + "(" + of + ")";
    }

    private static boolean isPublicName(String name) {
        for (String m : FACE) {
            if (m.contains(" " + name + "(")) {
                return true;
            }
        }
        return false;
    }

    private static void fields(Class<?> face) {
        Set<String> due = new TreeSet<>(Set.of("NONE", "BAD", "NO", "FULL"));
        for (Field f : face.getDeclaredFields()) {
            if (f.isSynthetic()) {
                continue;
            }
            int how = f.getModifiers();
            CHECK.holds(f + ": static is final", !Modifier.isStatic(how) || Modifier.isFinal(how));
            CHECK.holds(f + " is private or of the face", Modifier.isPrivate(how)
                    || due.remove(f.getName()) && how == (Modifier.PUBLIC | Modifier.STATIC | Modifier.FINAL));
        }
        CHECK.holds("all constants are there", due.isEmpty());
    }

    private static void classesInside(Class<?> face) {
        Class<?>[] inside = face.getDeclaredClasses();
        CHECK.holds("at most some twelve classes", inside.length <= 12);
        for (Class<?> c : inside) {
            int how = c.getModifiers();
            CHECK.holds(c + " is static and not public",
                    Modifier.isStatic(how) && !Modifier.isPublic(how) && !Modifier.isProtected(how));
            for (Method m : c.getDeclaredMethods()) {
                CHECK.holds(m + " bears no public name", m.isSynthetic() || !isPublicName(m.getName()));
                CHECK.holds(m + " takes at most seven", m.getParameterCount() <= 7);
            }
            for (Field f : c.getDeclaredFields()) {
                CHECK.holds(f + " is no static state",
                        f.isSynthetic() || !Modifier.isStatic(f.getModifiers()) || Modifier.isFinal(f.getModifiers()));
            }
        }
    }

    private static void constants() {
        CHECK.due("NONE", HeaveSongs.NONE, -1);
        CHECK.due("BAD", HeaveSongs.BAD, -2);
        CHECK.due("NO", HeaveSongs.NO, -3);
        CHECK.due("FULL", HeaveSongs.FULL, -4);
    }
}
