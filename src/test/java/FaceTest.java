import java.lang.reflect.Constructor;
import java.lang.reflect.Field;
import java.lang.reflect.Method;
import java.lang.reflect.Modifier;
import java.util.HashSet;
import java.util.Set;
import java.util.TreeSet;

/** The public face: the document's members, and no other that is not private. */
public final class FaceTest {
    private static final String[] METHODS = {
        "public void sign(int)",
        "public int rule()",
        "public int change(int,int,int)",
        "public boolean breaks(int,boolean)",
        "public int event(int,int,int)",
        "public int schedule(int,int)",
        "public int hold(int,int,int)",
        "public int except(int,int)",
        "public int day(int,int)",
        "public int due(int)",
        "public int at(int,int) throws java.util.NoSuchElementException",
        "public int approve(int,int)",
        "public int dispose(int,int,int)",
        "public int certificate(int,int)",
        "public int about(int,int)",
        "public int history(int) throws java.util.NoSuchElementException",
    };

    public static void main(String[] args) {
        constants();
        constructors();
        methods();
        classesInside();
        Checks.end();
    }

    private static void constants() {
        Checks.is("NONE", RetentionRows.NONE, -1);
        Checks.is("RANGE", RetentionRows.RANGE, -2);
        Checks.is("STATE", RetentionRows.STATE, -3);
        Checks.is("FULL", RetentionRows.FULL, -4);
        Set<String> open = new TreeSet<>();
        for (Field field : RetentionRows.class.getDeclaredFields()) {
            if (!Modifier.isPrivate(field.getModifiers())) {
                open.add(field.toString().replace("RetentionRows.", ""));
            }
            if (Modifier.isStatic(field.getModifiers())) {
                Checks.is(field + " is final", Modifier.isFinal(field.getModifiers()), true);
            }
        }
        Set<String> due = new TreeSet<>();
        for (String name : new String[] {"NONE", "RANGE", "STATE", "FULL"}) {
            due.add("public static final int " + name);
        }
        Checks.sameText("constants", open.toString(), due.toString());
    }

    private static void constructors() {
        Set<String> all = new TreeSet<>();
        for (Constructor<?> constructor : RetentionRows.class.getDeclaredConstructors()) {
            all.add(constructor.toString());
        }
        Checks.sameText("constructors", all.toString(), "[public RetentionRows()]");
        int modifiers = RetentionRows.class.getModifiers();
        Checks.is("the class is public", Modifier.isPublic(modifiers), true);
        Checks.is("the class is final", Modifier.isFinal(modifiers), true);
    }

    private static void methods() {
        Set<String> open = new TreeSet<>();
        Set<String> openNames = new HashSet<>();
        for (Method method : RetentionRows.class.getDeclaredMethods()) {
            if (!Modifier.isPrivate(method.getModifiers())) {
                open.add(method.toString().replace("RetentionRows.", ""));
                openNames.add(method.getName());
            }
        }
        Checks.sameText("methods", open.toString(), new TreeSet<>(Set.of(METHODS)).toString());
        for (Method method : RetentionRows.class.getDeclaredMethods()) {
            if (Modifier.isPrivate(method.getModifiers())) {
                Checks.is(method + " has a name of its own",
                        openNames.contains(method.getName()), false);
            }
        }
    }

    private static void classesInside() {
        for (Class<?> inside : RetentionRows.class.getDeclaredClasses()) {
            int modifiers = inside.getModifiers();
            Checks.is(inside + " is static", Modifier.isStatic(modifiers), true);
            Checks.is(inside + " is not open",
                    Modifier.isPublic(modifiers) || Modifier.isProtected(modifiers), false);
        }
    }
}
