import java.lang.reflect.Constructor;
import java.lang.reflect.Field;
import java.lang.reflect.Method;
import java.lang.reflect.Modifier;
import java.util.Arrays;
import java.util.HashSet;
import java.util.Set;
import java.util.TreeSet;

/** The public face: all that the document names, and nothing else that could be seen from outside. */
public final class FaceTest {
    private static final String[] METHODS = {
        "wall ii", "door ii", "thing iii", "hand ii", "strong i", "go ii", "take iii", "put i", "open ii",
        "way ii", "step iii", "reached ii", "barred ii", "thingTold ii", "handTold ii", "kindTold iii",
        "cellTold i", "isOpen i", "count i", "feed li", "program ", "actTold iii", "judge iii", "play ii",
        "start ii", "run i", "hangs i", "plan iiiii", "planned ii", "learnt i", "maybe iii", "sure ", "cases iii",
        "image ", "back ", "sheet iii", "cell iii", "copy iiiii", "walls iiii", "taken ii"};

    private static String shape(Method m) {
        StringBuilder text = new StringBuilder(m.getName()).append(' ');
        for (Class<?> c : m.getParameterTypes()) text.append(c == int.class ? 'i' : c == long.class ? 'l' : '?');
        return text.toString();
    }

    private static void methods() {
        Set<String> due = new TreeSet<>(Arrays.asList(METHODS)), got = new TreeSet<>();
        Set<String> names = new HashSet<>();
        for (String one : METHODS) names.add(one.substring(0, one.indexOf(' ')));
        for (Method m : HandsAndWays.class.getDeclaredMethods()) {
            if (m.isSynthetic()) continue;
            if (Modifier.isPrivate(m.getModifiers())) {
                Check.due("private " + m.getName() + " bears a public name", names.contains(m.getName()) ? 1 : 0, 0);
                continue;
            }
            got.add(shape(m));
            Check.due(m + " is public, of the object, and answers an int",
                m.getModifiers() == Modifier.PUBLIC && m.getReturnType() == int.class ? 1 : 0, 1);
        }
        Check.due("methods are " + got + " and should be " + due, got.equals(due) ? 1 : 0, 1);
    }

    private static void fields() {
        Set<String> seen = new TreeSet<>();
        for (Field f : HandsAndWays.class.getDeclaredFields()) {
            if (Modifier.isPrivate(f.getModifiers())) continue;
            seen.add(f.getName() + " " + f.getType());
            int all = Modifier.PUBLIC | Modifier.STATIC | Modifier.FINAL;
            Check.due(f + " is a constant", f.getModifiers() == all ? 1 : 0, 1);
        }
        Set<String> due = new TreeSet<>(Arrays.asList("NONE int", "BAD int", "STATE int", "FULL int", "NO long"));
        Check.due("fields are " + seen, seen.equals(due) ? 1 : 0, 1);
    }

    private static void classes() {
        Constructor<?>[] made = HandsAndWays.class.getDeclaredConstructors();
        Check.due("constructors", made.length, 1);
        Check.due("constructor's parameters", made[0].getParameterCount(), 0);
        Check.due("constructor is public", Modifier.isPublic(made[0].getModifiers()) ? 1 : 0, 1);
        Check.due("class is public and final", HandsAndWays.class.getModifiers(), Modifier.PUBLIC | Modifier.FINAL);
        Class<?>[] inside = HandsAndWays.class.getDeclaredClasses();
        Check.due("some twelve classes: " + inside.length, inside.length <= 12 ? 1 : 0, 1);
        for (Class<?> c : inside) {
            Check.due(c + " is static", Modifier.isStatic(c.getModifiers()) ? 1 : 0, 1);
            Check.due(c + " is private", Modifier.isPrivate(c.getModifiers()) ? 1 : 0, 1);
            int fields = 0;
            for (Field f : c.getDeclaredFields()) {
                boolean constant = Modifier.isStatic(f.getModifiers());
                if (!constant) fields++;
                Check.due(c + " " + f + " static is final", !constant || Modifier.isFinal(f.getModifiers()) ? 1 : 0, 1);
            }
            Check.due(c + " has " + fields + " fields", fields <= 20 ? 1 : 0, 1);
            for (Method m : c.getDeclaredMethods()) {
                Check.due(m + " has at most seven parameters", m.getParameterCount() <= 7 ? 1 : 0, 1);
            }
        }
    }

    public static void main(String[] args) {
        methods();
        fields();
        classes();
        Check.end("FaceTest");
    }
}
