import java.lang.reflect.Constructor;
import java.lang.reflect.Field;
import java.lang.reflect.Method;
import java.lang.reflect.Modifier;
import java.util.TreeSet;

/** The class has the document's face, and no other member that can be seen. */
public final class FaceTest {
    private static final String[] METHODS = {
        "int asks(int,int,int)", "int back()", "int believes(int)", "int blow(int,int)", "int cell(int,int,int)",
        "int copy(int,int,int,int,int)", "int count(int)", "int doubts(int)", "int draughts(int,int,int)",
        "int drawn(int,int,int)", "int feed(int,int,int,int,int,int)", "int film(int,int,int)", "int force(int)",
        "int image()", "int judge(int,int)", "int kinds(int,int,int)", "int laws(int,int)", "int lie(int,int,int)",
        "int likes(int,int)", "int lostBy(int,int)", "int night()", "int put(int,int,int)", "int rock(int,int)",
        "int run(int,int)", "int sheet(int,int,int)", "int ship(int,int)", "int shipsBy(int,int,int,int)",
        "int taken(int,int)", "int tell(int,int)", "int text()", "int told(int,int)", "int trust(int,int,int)",
        "int whose(int)", "long odds(int,int,int,int,int)", "long places(int,int)", "long safe(int,int)",
        "long sea(int)", "long track(int,int)", "long truth(int)"};

    public static void main(String[] args) throws Exception {
        Class<?> face = LighthouseLiedTo.class;
        Due.holds("public and final", Modifier.isPublic(face.getModifiers()) && Modifier.isFinal(face.getModifiers()));
        TreeSet<String> due = new TreeSet<>(java.util.List.of(METHODS));
        TreeSet<String> seen = new TreeSet<>();
        TreeSet<String> hidden = new TreeSet<>();
        for (Method m : face.getDeclaredMethods()) {
            if (Modifier.isPrivate(m.getModifiers())) {
                hidden.add(m.getName());
            } else {
                seen.add(written(m));
                Due.holds(m + " is public, of the object", m.getModifiers() == Modifier.PUBLIC);
            }
        }
        for (Class<?> inside : face.getDeclaredClasses()) {
            Due.holds(inside + " is static", Modifier.isStatic(inside.getModifiers()));
            Due.holds(inside + " is not public", !Modifier.isPublic(inside.getModifiers()));
            for (Method m : inside.getDeclaredMethods()) {
                hidden.add(m.getName());
            }
        }
        Due.holds("methods are " + seen, seen.equals(due));
        for (Method m : face.getMethods()) {
            Due.holds("no hidden one is named " + m.getName(),
                    m.getDeclaringClass() != face || !hidden.contains(m.getName()));
        }
        Constructor<?>[] makers = face.getDeclaredConstructors();
        Due.holds("one constructor", makers.length == 1 && makers[0].getParameterCount() == 0
                && Modifier.isPublic(makers[0].getModifiers()));
        constants(face);
        Due.end();
    }

    private static String written(Method m) {
        StringBuilder s = new StringBuilder(m.getReturnType().getName() + " " + m.getName() + "(");
        for (int i = 0; i < m.getParameterCount(); i++) {
            s.append(i == 0 ? "" : ",").append(m.getParameterTypes()[i].getName());
        }
        return s.append(")").toString();
    }

    private static void constants(Class<?> face) throws Exception {
        TreeSet<String> seen = new TreeSet<>();
        for (Field f : face.getDeclaredFields()) {
            if (!Modifier.isPrivate(f.getModifiers())) {
                seen.add(f.getType() + " " + f.getName() + " " + f.get(null));
                Due.holds(f + " is a constant",
                        f.getModifiers() == (Modifier.PUBLIC | Modifier.STATIC | Modifier.FINAL));
            }
        }
        Due.holds("constants are " + seen, seen.equals(new TreeSet<>(java.util.List.of(
                "int NONE -1", "int BAD -2", "int STATE -3", "int FULL -4", "long NO -4611686018427387904"))));
    }
}
