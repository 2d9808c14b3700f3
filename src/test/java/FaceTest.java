import java.lang.reflect.Constructor;
import java.lang.reflect.Field;
import java.lang.reflect.Method;
import java.lang.reflect.Modifier;
import java.util.Set;
import java.util.TreeSet;

/** The public face, and nothing beside it. */
public final class FaceTest {
    public static void main(String[] args) {
        Checks c = new Checks("FaceTest");
        c.due("modifiers of the class", SortPacks.class.getModifiers(), Modifier.PUBLIC | Modifier.FINAL);
        c.due("BAD", SortPacks.BAD, -1);
        c.due("NONE", SortPacks.NONE, -2);
        c.due("FULL", SortPacks.FULL, -3);
        Set<String> due = new TreeSet<>(Set.of("BAD", "NONE", "FULL", "new 1", "feed 5", "end 1", "octets 2",
            "pack 0", "open 0", "rule 0", "pass 0", "spoil 2", "drop 1", "out 1", "count 1", "block 2", "sum 1",
            "choice 1", "length 2", "mark 1", "alone 1"));
        Set<String> seen = new TreeSet<>();
        for (Field f : SortPacks.class.getDeclaredFields()) {
            if (!Modifier.isPrivate(f.getModifiers())) {
                seen.add(f.getName());
                c.due(f + " is public static final int", f.getType() == int.class ? f.getModifiers() : -1,
                    Modifier.PUBLIC | Modifier.STATIC | Modifier.FINAL);
            }
        }
        for (Constructor<?> k : SortPacks.class.getDeclaredConstructors()) {
            seen.add("new " + k.getParameterCount());
        }
        for (Method m : SortPacks.class.getDeclaredMethods()) {
            if (!Modifier.isPrivate(m.getModifiers())) {
                seen.add(m.getName() + " " + m.getParameterCount());
                c.due(m + " is public and answers int", m.getReturnType() == int.class ? m.getModifiers() : -1,
                    Modifier.PUBLIC);
                c.due(m + " names exceptions", m.getExceptionTypes().length, m.getName().equals("out") ? 1 : 0);
            }
        }
        c.due("members " + seen, seen.equals(due) ? 1 : 0, 1);
        for (Class<?> inside : SortPacks.class.getDeclaredClasses()) {
            c.due(inside + " is static", Modifier.isStatic(inside.getModifiers()) ? 1 : 0, 1);
        }
        c.finish();
    }
}
