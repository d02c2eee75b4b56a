import java.lang.reflect.Constructor;
import java.lang.reflect.Field;
import java.lang.reflect.Method;
import java.lang.reflect.Modifier;
import java.util.Arrays;
import java.util.Set;
import java.util.TreeSet;

/** The public face: what the document shows, and nothing else that could be seen from outside. */
public final class FaceTest {
    private static final Check CHECK = new Check("FaceTest");

    private static final String[] FACE = {
        "anew 0", "below 1", "bridges 0", "built 2", "called 1", "centre 1", "count 1", "cutting 2", "depth 1", "end 1",
        "fair 1", "fault 1", "feed 5", "force 2", "gap 1", "grant 1", "hops 2", "id 1", "longest 1", "named 2",
        "net 0", "packet 2", "packets 0", "parent 1", "plug 5", "port 3", "pull 2", "root 1", "rootBy 1", "rounds 1",
        "settled 1", "size 1", "spare 1", "taken 1", "turn 2", "undo 0", "unlike 1", "way 2", "wins 1"};

    public static void main(String[] args) {
        Set<String> shown = new TreeSet<>();
        Set<String> names = new TreeSet<>();
        for (Method m : CableElection.class.getDeclaredMethods()) {
            if (Modifier.isPublic(m.getModifiers())) {
                shown.add(m.getName() + " " + m.getParameterCount());
                names.add(m.getName());
                CHECK.due(m.getName() + " answers an int", m.getReturnType() == int.class ? 1 : 0, 1);
                CHECK.due(m.getName() + " takes ints", Arrays.stream(m.getParameterTypes()).allMatch(t -> t == int.class) ? 1 : 0, 1);
                CHECK.due(m.getName() + " is of the object", Modifier.isStatic(m.getModifiers()) ? 1 : 0, 0);
            }
        }
        CHECK.due("the methods are " + shown, shown.equals(new TreeSet<>(Arrays.asList(FACE))) ? 1 : 0, 1);
        for (Method m : CableElection.class.getDeclaredMethods()) {
            if (!Modifier.isPublic(m.getModifiers()) && !m.isSynthetic()) {
                CHECK.due(m + " is private", Modifier.isPrivate(m.getModifiers()) ? 1 : 0, 1);
                CHECK.due(m + " has a name of its own", names.contains(m.getName()) ? 1 : 0, 0);
            }
        }
        fieldsAndConstructors();
        CHECK.close();
    }

    private static void fieldsAndConstructors() {
        for (Field f : CableElection.class.getDeclaredFields()) {
            boolean isNone = f.getName().equals("NONE");
            CHECK.due(f + " is public", Modifier.isPublic(f.getModifiers()) ? 1 : 0, isNone ? 1 : 0);
            CHECK.due(f + " is private", Modifier.isPrivate(f.getModifiers()) ? 1 : 0, isNone ? 0 : 1);
        }
        CHECK.due("NONE", CableElection.NONE, -1);
        CHECK.due("the class is final", Modifier.isFinal(CableElection.class.getModifiers()) ? 1 : 0, 1);
        Constructor<?>[] makers = CableElection.class.getDeclaredConstructors();
        CHECK.due("constructors", makers.length, 1);
        CHECK.due("it is public", Modifier.isPublic(makers[0].getModifiers()) ? 1 : 0, 1);
        CHECK.due("it takes nothing", makers[0].getParameterCount(), 0);
        CHECK.due("classes inside", CableElection.class.getDeclaredClasses().length <= 12 ? 1 : 0, 1);
        for (Class<?> inside : CableElection.class.getDeclaredClasses()) {
            CHECK.due(inside + " is static", Modifier.isStatic(inside.getModifiers()) ? 1 : 0, 1);
            CHECK.due(inside + " is public", Modifier.isPublic(inside.getModifiers()) ? 1 : 0, 0);
        }
    }
}
