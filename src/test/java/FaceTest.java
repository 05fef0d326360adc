import java.lang.reflect.Constructor;
import java.lang.reflect.Field;
import java.lang.reflect.Method;
import java.lang.reflect.Modifier;
import java.util.HashSet;
import java.util.List;
import java.util.Set;
import java.util.TreeSet;

/** The public face is the document's and no more; the program keeps to LANGUAGE.md where that can be seen from outside. */
public final class FaceTest {
    private static final Checks CHECKS = new Checks("FaceTest");
    private static final String FACE = "int feed 5;int text 1;int fault 1;int named 2;int person 2;int question 2;int can 3;"
            + "long law 3;int ask 3;boolean tell 2;boolean send 2;int end 0;int all 1;int never 2;int away 2;int spread 1;"
            + "int hint 3;int unasked 1;int inRoom 2;int bestRoom 1;int way 4;int step 5;int care 1;int best 3;int rests 2;"
            + "int rest 3;int slipped 1;int behind 2;int note 4;int strike 1;boolean known 1;int knew 1;int chance 3;"
            + "int tried 2;int undo 0;int keep 0;int back 0;int count 1";

    public static void main(String[] args) {
        members();
        nested();
        CHECKS.end();
    }

    private static void members() {
        Set<String> due = new TreeSet<>(List.of(FACE.split(";")));
        Set<String> names = new HashSet<>();
        Set<String> got = new TreeSet<>();
        for (Method m : AskedCourt.class.getDeclaredMethods()) {
            if (Modifier.isPublic(m.getModifiers())) {
                got.add(m.getReturnType() + " " + m.getName() + " " + m.getParameterCount());
                names.add(m.getName());
            } else {
                CHECKS.due(m + " is private", Modifier.isPrivate(m.getModifiers()), true);
            }
        }
        CHECKS.due("the face: " + got, got.equals(due), true);
        for (Method m : AskedCourt.class.getDeclaredMethods()) {
            if (!Modifier.isPublic(m.getModifiers())) {
                CHECKS.due(m + " bears a public one's name", names.contains(m.getName()), false);
            }
        }
        for (Field f : AskedCourt.class.getDeclaredFields()) {
            boolean isFace = f.getName().equals("NONE");
            CHECKS.due(f + " is public", Modifier.isPublic(f.getModifiers()), isFace);
            CHECKS.due(f + " is private", Modifier.isPrivate(f.getModifiers()), !isFace);
        }
        Constructor<?>[] constructors = AskedCourt.class.getDeclaredConstructors();
        CHECKS.due("one constructor", constructors.length, 1);
        CHECKS.due("which is public", Modifier.isPublic(constructors[0].getModifiers()), true);
        CHECKS.due("the class is final", Modifier.isFinal(AskedCourt.class.getModifiers()), true);
    }

    private static void nested() {
        Class<?>[] classes = AskedCourt.class.getDeclaredClasses();
        CHECKS.due("at most twelve classes", classes.length <= 11, true);
        for (Class<?> c : classes) {
            CHECKS.due(c + " is static", Modifier.isStatic(c.getModifiers()), true);
            int fields = 0;
            for (Field f : c.getDeclaredFields()) {
                if (Modifier.isStatic(f.getModifiers())) {
                    CHECKS.due(f + " is final", Modifier.isFinal(f.getModifiers()), true);
                } else {
                    fields++;
                }
            }
            CHECKS.due(c + " has some twenty fields", fields <= 20, true);
            for (Method m : c.getDeclaredMethods()) {
                CHECKS.due(m + " has at most seven parameters", m.getParameterCount() <= 7, true);
                CHECKS.due(m + " bears a public one's name", FACE.matches(".*\\b" + m.getName() + "\\b.*"), false);
            }
        }
    }
}
