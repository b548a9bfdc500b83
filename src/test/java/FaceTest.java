import java.lang.reflect.Constructor;
import java.lang.reflect.Field;
import java.lang.reflect.Method;
import java.lang.reflect.Modifier;
import java.util.HashSet;
import java.util.Set;
import java.util.TreeSet;

/** The public face is the document's, and nothing else of the class can be seen from outside. */
public final class FaceTest {
    private static final String[] FACE = {
        "int feed(int,int,int,int,int)", "boolean end(int)", "int tell()", "int fault()", "int grow(int)",
        "int add(int)", "int close()", "int assume(int)", "int free()", "boolean phase(int)",
        "boolean unit(int)", "int forget(int)", "boolean keep(int)", "boolean back(int)", "int solve(int)",
        "int count(int)", "int clause(int,int)", "int assumption(int)", "int model(int)", "int core()",
        "int variable(int,int)", "int follows(int)", "int line(int,int)", "int proof()", "int refute()",
        "int closed()", "int models()", "int fixed(boolean)",
    };
    private static int wrong = 0;

    private static void due(boolean holds, String what) {
        if (!holds) {
            wrong++;
            System.out.println("FaceTest: " + what);
        }
    }

    private static String textOf(Method m) {
        StringBuilder b = new StringBuilder(m.getReturnType() + " " + m.getName() + "(");
        for (int i = 0; i < m.getParameterCount(); i++) {
            b.append(i > 0 ? "," : "").append(m.getParameterTypes()[i]);
        }
        return b.append(")").toString();
    }

    private static void lookAtMembers() {
        Set<String> seen = new TreeSet<>();
        for (Method m : LearntReasons.class.getDeclaredMethods()) {
            if (Modifier.isPublic(m.getModifiers())) {
                seen.add(textOf(m));
                due(!Modifier.isStatic(m.getModifiers()), "static: " + m);
            } else {
                due(Modifier.isPrivate(m.getModifiers()) || m.isSynthetic(), "can be seen: " + m);
            }
        }
        due(seen.equals(new TreeSet<>(Set.of(FACE))), "the methods are " + seen);
        for (Field f : LearntReasons.class.getDeclaredFields()) {
            boolean none = f.getName().equals("NONE") && Modifier.isPublic(f.getModifiers());
            due(none || Modifier.isPrivate(f.getModifiers()), "can be seen: " + f);
            due(Modifier.isFinal(f.getModifiers()), "not final: " + f);
        }
        Constructor<?>[] makers = LearntReasons.class.getDeclaredConstructors();
        due(makers.length == 1 && makers[0].getParameterCount() == 0
            && Modifier.isPublic(makers[0].getModifiers()), "one public constructor");
        due(Modifier.isFinal(LearntReasons.class.getModifiers()), "final");
    }

    private static void lookAtClassesInside() {
        Set<String> names = new HashSet<>();
        for (String f : FACE) {
            names.add(f.substring(f.indexOf(' ') + 1, f.indexOf('(')));
        }
        Class<?>[] inside = LearntReasons.class.getDeclaredClasses();
        due(inside.length <= 12, "at most twelve classes");
        for (Class<?> c : inside) {
            due(Modifier.isStatic(c.getModifiers()) && !Modifier.isPublic(c.getModifiers()), c.getName());
            int fields = 0;
            for (Field f : c.getDeclaredFields()) {
                boolean isStatic = Modifier.isStatic(f.getModifiers());
                due(!isStatic || Modifier.isFinal(f.getModifiers()), "static state: " + f);
                fields += isStatic ? 0 : 1;
            }
            due(fields <= 20, c.getName() + " has " + fields + " fields");
            for (Method m : c.getDeclaredMethods()) {
                due(!names.contains(m.getName()), "a name of the face: " + m);
                due(m.getParameterCount() <= 7, "more than seven parameters: " + m);
            }
        }
    }

    public static void main(String[] args) {
        lookAtMembers();
        lookAtClassesInside();
        System.out.println("FaceTest: " + (wrong == 0 ? "the face is as due" : wrong + " faults"));
        if (wrong != 0) {
            System.exit(1);
        }
    }
}
