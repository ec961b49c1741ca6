import java.lang.reflect.Constructor;
import java.lang.reflect.Field;
import java.lang.reflect.Method;
import java.lang.reflect.Modifier;
import java.util.Map;
import java.util.Set;
import java.util.TreeMap;
import java.util.TreeSet;

/** The public face, and that nothing else of the class can be seen. */
public final class FaceTest {
    private static final Map<String, Integer> METHODS = new TreeMap<>(Map.ofEntries(
        Map.entry("table", 1), Map.entry("entry", 5), Map.entry("otherwise", 4), Map.entry("forget", 2),
        Map.entry("drop", 1), Map.entry("rule", 2), Map.entry("told", 2), Map.entry("needs", 2),
        Map.entry("stages", 0), Map.entry("stage", 2), Map.entry("fewest", 0), Map.entry("tell", 2),
        Map.entry("put", 2), Map.entry("register", 1), Map.entry("run", 0), Map.entry("out", 1),
        Map.entry("took", 2), Map.entry("image", 1), Map.entry("restore", 1), Map.entry("count", 1)));

    private FaceTest() {
    }

    public static void main(String[] args) throws ReflectiveOperationException {
        constants();
        methods();
        classes();
        howMany();
        Due.end();
    }

    private static void constants() throws ReflectiveOperationException {
        String[] names = {"UNKNOWN", "OUTSIDE", "STATE", "FULL", "NO", "NONE"};
        Set<String> seen = new TreeSet<>();
        for (Field f : StagedTables.class.getDeclaredFields()) {
            if (!Modifier.isPrivate(f.getModifiers())) {
                seen.add(f.getName());
            }
        }
        Due.isTrue("no field but the constants can be seen: " + seen, seen.equals(Set.of(names)));
        for (int i = 0; i < names.length; i++) {
            Field f = StagedTables.class.getField(names[i]);
            Due.is(names[i], f.getInt(null), -1 - i);
            Due.isTrue(names[i] + " is final", Modifier.isFinal(f.getModifiers()));
        }
    }

    private static void methods() {
        Map<String, Integer> seen = new TreeMap<>();
        for (Method m : StagedTables.class.getDeclaredMethods()) {
            if (Modifier.isPrivate(m.getModifiers())) {
                Due.isTrue(m.getName() + " is private and has a public name", !METHODS.containsKey(m.getName()));
                continue;
            }
            Due.isTrue(m.getName() + " is public", Modifier.isPublic(m.getModifiers()));
            Due.isTrue(m.getName() + " answers an int", m.getReturnType() == int.class);
            seen.put(m.getName(), m.getParameterCount());
        }
        Due.isTrue("the methods are the document's: " + seen, seen.equals(METHODS));
        Constructor<?>[] made = StagedTables.class.getDeclaredConstructors();
        Due.is("constructors", made.length, 1);
        Due.isTrue("a public constructor without parameters",
            Modifier.isPublic(made[0].getModifiers()) && made[0].getParameterCount() == 0);
    }

    private static void classes() {
        Due.isTrue("public and final", Modifier.isPublic(StagedTables.class.getModifiers())
            && Modifier.isFinal(StagedTables.class.getModifiers()));
        for (Class<?> c : StagedTables.class.getDeclaredClasses()) {
            Due.isTrue(c + " is static", Modifier.isStatic(c.getModifiers()));
            Due.isTrue(c + " is not public", !Modifier.isPublic(c.getModifiers()));
            for (Method m : c.getDeclaredMethods()) {
                Due.isTrue(c + "." + m.getName() + " has no public name", !METHODS.containsKey(m.getName()));
            }
        }
    }

    /** Rule 11 of LANGUAGE.md: at most some twelve classes, and some twenty fields in each beside its constants. */
    private static void howMany() {
        Due.isTrue("at most twelve classes", StagedTables.class.getDeclaredClasses().length < 12);
        fewFields(StagedTables.class);
        for (Class<?> c : StagedTables.class.getDeclaredClasses()) {
            fewFields(c);
        }
    }

    private static void fewFields(Class<?> c) {
        int fields = 0;
        for (Field f : c.getDeclaredFields()) {
            fields += Modifier.isStatic(f.getModifiers()) ? 0 : 1;
        }
        Due.isTrue(c + " has at most twenty fields", fields <= 20);
    }
}
