import java.lang.reflect.InvocationTargetException;
import java.lang.reflect.Method;
import java.util.Arrays;
import java.util.Comparator;
import java.util.regex.Matcher;
import java.util.regex.Pattern;

/** Runs a class's edges: its methods whose names are "promise", the promise's number, the edge. */
final class Edges {
    private static final Pattern NAME = Pattern.compile("promise(\\d\\d)[A-Z]\\w*");

    /** Each promise from the first to the last must have an edge, so that none is forgotten. */
    static void run(Class<?> edges, int first, int last) throws IllegalAccessException {
        Due due = new Due(edges.getSimpleName());
        int[] found = new int[last + 1];
        Method[] methods = edges.getDeclaredMethods();
        Arrays.sort(methods, Comparator.comparing(Method::getName));
        for (Method method : methods) {
            Matcher name = NAME.matcher(method.getName());
            if (name.matches()) {
                int promise = Integer.parseInt(name.group(1));
                due.holds(method.getName() + " belongs here", promise >= first && promise <= last);
                found[Math.min(promise, last)]++;
                run(method, due);
            }
        }
        for (int promise = first; promise <= last; promise++) {
            due.holds("promise " + promise + " has an edge", found[promise] > 0);
        }
        due.end();
    }

    private static void run(Method method, Due due) throws IllegalAccessException {
        try {
            method.invoke(null, new Edge(due, method.getName()));
        } catch (InvocationTargetException e) {
            due.is(method.getName() + " threw " + e.getCause(), 1, 0);
        }
    }
}
