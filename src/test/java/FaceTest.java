import java.lang.reflect.Constructor;
import java.lang.reflect.Field;
import java.lang.reflect.Method;
import java.lang.reflect.Modifier;
import java.util.Arrays;
import java.util.HashSet;
import java.util.Set;

/** The class's face: what the document shows, and nothing beside it. */
final class FaceTest {
    private static final Due due = new Due("FaceTest");
    private static final String[] FACE = {
        "int row(int,int,int)", "int set(int,int,long)", "int copy(int,int,int,int,int)",
        "long element(int,int)", "int show(int,int)", "int holds(int)", "int says(int,int)",
        "int person(int,int,int,int,int,int)", "int build(int,int,boolean)", "int put(int,int)",
        "int sack(int,boolean)", "int ask(int,int)", "int personOf(int,int)", "int squareOf(int,int)",
        "int town(int)", "int fault()", "int view(int,int)", "int glances(int,int)",
        "int duty(int,int)", "int all(int)", "int walk(int,int,int)", "int stand(int,int)",
        "int sacks(int,int)", "int balconies(int)", "int fits(int,int)", "int most(int)",
        "int crowd(int)", "int judge(int,int)", "int behind(int,int,int)", "int done(int,int)",
        "int hours(int)", "int seed(int)", "int act(int,int,int)", "int trace(int)", "int image()",
        "int restore()", "int status(int)"};

    public static void main(String[] args) {
        Set<String> face = new HashSet<>(Arrays.asList(FACE));
        Set<String> names = new HashSet<>();
        for (String shown : FACE) {
            names.add(shown.substring(shown.indexOf(' ') + 1, shown.indexOf('(')));
        }
        int methods = 0;
        for (Method m : TaxOnLooks.class.getDeclaredMethods()) {
            if (Modifier.isPublic(m.getModifiers())) {
                methods++;
                due.holds(told(m) + " is in the face", face.contains(told(m)));
                due.holds(told(m) + " is of the object", !Modifier.isStatic(m.getModifiers()));
            } else {
                hidden(m, names);
            }
        }
        due.is("methods", methods, FACE.length);
        fields(TaxOnLooks.class);
        Constructor<?>[] made = TaxOnLooks.class.getDeclaredConstructors();
        due.is("constructors", made.length, 1);
        due.is("without arguments", made[0].getParameterCount(), 0);
        due.holds("public", Modifier.isPublic(made[0].getModifiers()));
        due.holds("final", Modifier.isFinal(TaxOnLooks.class.getModifiers()));
        due.is("NONE", TaxOnLooks.NONE, -1);
        inside(names);
        due.end();
    }

    private static void inside(Set<String> names) {
        Class<?>[] classes = TaxOnLooks.class.getDeclaredClasses();
        due.holds("at most twelve classes", classes.length < 12);
        for (Class<?> c : classes) {
            due.holds(c + " is static", Modifier.isStatic(c.getModifiers()));
            due.holds(c + " is hidden", !Modifier.isPublic(c.getModifiers()));
            fields(c);
            for (Method m : c.getDeclaredMethods()) {
                due.holds(m + " is hidden", !Modifier.isPublic(m.getModifiers()));
                due.holds(m + " has a name of its own", !names.contains(m.getName()));
                due.holds(m + " has seven parameters at most", m.getParameterCount() <= 7);
            }
        }
    }

    private static void hidden(Method m, Set<String> names) {
        due.holds(m + " is private", Modifier.isPrivate(m.getModifiers()));
        due.holds(m + " has a name of its own", !names.contains(m.getName()));
        due.holds(m + " has seven parameters at most", m.getParameterCount() <= 7);
    }

    private static void fields(Class<?> c) {
        int own = 0;
        for (Field f : c.getDeclaredFields()) {
            boolean fixed = Modifier.isStatic(f.getModifiers());
            own += fixed ? 0 : 1;
            due.holds(f + " is final, if static", !fixed || Modifier.isFinal(f.getModifiers()));
            boolean none = f.getName().equals("NONE") && Modifier.isPublic(f.getModifiers());
            due.holds(f + " is private", none || Modifier.isPrivate(f.getModifiers()));
        }
        due.holds("some twenty fields in " + c, own <= 20);
    }

    private static String told(Method m) {
        StringBuilder s = new StringBuilder(m.getReturnType() + " " + m.getName() + "(");
        for (Class<?> p : m.getParameterTypes()) {
            s.append(s.charAt(s.length() - 1) == '(' ? "" : ",").append(p);
        }
        return s.append(")").toString();
    }
}
