import java.lang.reflect.Constructor;
import java.lang.reflect.Field;
import java.lang.reflect.Method;
import java.lang.reflect.Modifier;
import java.util.IdentityHashMap;
import java.util.Map;
import java.util.TreeSet;

/** The face of the document and no other, and how much one object holds. */
public final class FaceTest {
    private static final String STATE = "IllegalStateException";
    private static final String INDEX = "IndexOutOfBoundsException";
    private static final String ARGUMENT = "IllegalArgumentException";
    private static final String[] FACE = {
        "boolean unit(int)",
        "int family() throws " + STATE,
        "boolean span(int,long,long) throws " + INDEX + "," + ARGUMENT,
        "int make(int,int) throws " + INDEX + "," + ARGUMENT,
        "long pad(int,int) throws " + STATE + "," + INDEX,
        "int name(int) throws " + STATE + "," + INDEX,
        "long court(int) throws " + STATE + "," + INDEX,
        "int mask(int,int) throws " + STATE + "," + INDEX,
        "int paste(int,int) throws " + STATE + "," + INDEX,
        "boolean leave(int) throws " + ARGUMENT,
        "int via(int,int) throws " + STATE + "," + INDEX,
        "int check() throws " + STATE,
        "boolean hand(int,long,long,long,long) throws " + INDEX + "," + ARGUMENT,
        "int text(int) throws " + STATE + "," + INDEX,
        "void clear()"};
    // A run's room is 7.3 million; even a thousand objects in one run leave some of it.
    private static final int MOST_CELLS = 7000;

    private static int wrong = 0;

    public static void main(String[] args) throws Exception {
        dueClass();
        dueMethods();
        dueFields();
        dueStaticFields(FootprintRules.class);
        dueHeld();
        System.out.println(wrong == 0 ? "the face is as due" : wrong + " faults");
        if (wrong != 0) {
            System.exit(1);
        }
    }

    private static void dueClass() {
        int modifiers = FootprintRules.class.getModifiers();
        due("public and final", Modifier.isPublic(modifiers) && Modifier.isFinal(modifiers));
        due("in no package", FootprintRules.class.getPackageName().isEmpty());
        Constructor<?>[] constructors = FootprintRules.class.getDeclaredConstructors();
        due("one constructor", constructors.length == 1
                && Modifier.isPublic(constructors[0].getModifiers())
                && constructors[0].getParameterCount() == 0);
    }

    private static void dueMethods() {
        TreeSet<String> open = new TreeSet<>();
        TreeSet<String> names = new TreeSet<>();
        for (Method method : FootprintRules.class.getDeclaredMethods()) {
            if (!Modifier.isPrivate(method.getModifiers())) {
                due(method + " is public", Modifier.isPublic(method.getModifiers()));
                open.add(written(method));
                names.add(method.getName());
            }
        }
        due("the methods " + open, open.equals(new TreeSet<>(java.util.List.of(FACE))));
        duePrivateNames(FootprintRules.class, names);
        for (Class<?> inside : FootprintRules.class.getDeclaredClasses()) {
            duePrivateNames(inside, names);
            due(inside + " is static", Modifier.isStatic(inside.getModifiers()));
            due(inside + " is not public", !Modifier.isPublic(inside.getModifiers()));
            dueStaticFields(inside);
        }
    }

    private static void duePrivateNames(Class<?> of, TreeSet<String> names) {
        for (Method method : of.getDeclaredMethods()) {
            due("no public one's name: " + method, !Modifier.isPrivate(method.getModifiers())
                    || !names.contains(method.getName()));
        }
    }

    private static String written(Method method) {
        StringBuilder s = new StringBuilder();
        s.append(method.getReturnType()).append(' ').append(method.getName()).append('(');
        String between = "";
        for (Class<?> type : method.getParameterTypes()) {
            s.append(between).append(type);
            between = ",";
        }
        s.append(')');
        between = " throws ";
        for (Class<?> type : method.getExceptionTypes()) {
            s.append(between).append(type.getSimpleName());
            between = ",";
        }
        return s.toString();
    }

    private static void dueFields() throws Exception {
        Field none = FootprintRules.class.getField("NONE");
        due("NONE is a constant int", none.getType() == int.class
                && Modifier.isStatic(none.getModifiers()) && Modifier.isFinal(none.getModifiers()));
        due("NONE is -1", none.getInt(null) == -1);
        for (Field field : FootprintRules.class.getDeclaredFields()) {
            boolean isNone = field.getName().equals("NONE");
            due(field + " is private", isNone == !Modifier.isPrivate(field.getModifiers()));
        }
    }

    private static void dueStaticFields(Class<?> of) {
        for (Field field : of.getDeclaredFields()) {
            due(field + " is final", !Modifier.isStatic(field.getModifiers())
                    || Modifier.isFinal(field.getModifiers()));
        }
    }

    private static void dueHeld() throws Exception {
        FootprintRules x = new FootprintRules();
        int before = held(x);
        due("holds " + before, before < MOST_CELLS);
        String words = "less via 10000 part 10000 name ABCD";
        for (int i = 0; i < words.length(); i++) {
            x.unit(words.charAt(i));
        }
        x.family();
        long[] spans = {40000000, 38000000, 100000, 200000, 64, 1, 1, 1, 36000000, 36000000};
        for (int what = 0; what < spans.length; what++) {
            x.span(what, spans[what], spans[what]);
        }
        due("make", x.make(0, 0) == 65);
        x.text(0);
        x.paste(64, 0);
        x.via(0, 0);
        x.hand(80, 1, 1, 1, 1);
        x.check();
        due("holds no more after its calls", held(x) <= before);
    }

    /** Fields and elements of all that an object holds. */
    private static int held(FootprintRules x) throws Exception {
        Map<Object, Object> seen = new IdentityHashMap<>();
        return held(x, seen);
    }

    private static int held(Object x, Map<Object, Object> seen) throws Exception {
        if (x == null || x instanceof Enum || x instanceof String || seen.put(x, x) != null) {
            return 0;
        }
        int cells = 0;
        if (x.getClass().isArray()) {
            cells = java.lang.reflect.Array.getLength(x);
            if (x instanceof Object[]) {
                for (Object element : (Object[]) x) {
                    cells += held(element, seen);
                }
            }
            return cells;
        }
        for (Field field : x.getClass().getDeclaredFields()) {
            if (!Modifier.isStatic(field.getModifiers())) {
                cells++;
                field.setAccessible(true);
                cells += field.getType().isPrimitive() ? 0 : held(field.get(x), seen);
            }
        }
        return cells;
    }

    private static void due(String what, boolean holds) {
        if (!holds) {
            wrong++;
            System.out.println("not so: " + what);
        }
    }
}
