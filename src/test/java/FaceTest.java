import java.lang.reflect.Array;
import java.lang.reflect.Constructor;
import java.lang.reflect.Field;
import java.lang.reflect.Method;
import java.lang.reflect.Modifier;
import java.util.ArrayDeque;
import java.util.Arrays;
import java.util.Deque;
import java.util.HashSet;
import java.util.IdentityHashMap;
import java.util.Set;
import java.util.TreeSet;

/** The public face is the document's and no more, and an object stays as small as it was made. */
public final class FaceTest {
    private static final Due DUE = new Due("FaceTest");
    private static final String I = "IndexOutOfBoundsException";
    private static final String S = "IllegalStateException";
    private static final String A = "IllegalArgumentException";

    public static void main(String[] args) throws IllegalAccessException {
        methods();
        fields();
        constructors();
        classesInside();
        room();
        DUE.end();
    }

    private static String face(String kind, String name, String params, String... thrown) {
        return kind + " " + name + "(" + params + ") " + String.join(",", thrown);
    }

    private static void methods() {
        Set<String> want = new TreeSet<>(Arrays.asList(
            face("int", "part", "", S),
            face("int", "box", "int,long,long,long,long,long", I, S, A),
            face("boolean", "deep", "int,long", I, A),
            face("boolean", "slant", "long,long,long", A),
            face("boolean", "group", "int,int", I, A),
            face("boolean", "free", "int,int,long", I, A),
            face("int", "run", ""),
            face("int", "step", "int,int", S, I, A),
            face("int", "apart", "int", S, I),
            face("int", "locked", "int", S, I),
            face("int", "stage", "int", S, I),
            face("int", "turnings", "", S),
            face("int", "two", "int", S, A),
            face("int", "hands", "int,int", S, I, A),
            face("int", "out", "int", S, I),
            face("boolean", "glue", "int,int,int", I, A),
            face("boolean", "keeps", "", S),
            face("int", "clamp", "int,int,long", I, A)));
        Set<String> got = new TreeSet<>();
        Set<String> names = new HashSet<>();
        for (Method m : TogetherOrders.class.getDeclaredMethods()) {
            if (Modifier.isPublic(m.getModifiers())) {
                got.add(face(m.getReturnType().getName(), m.getName(), join(m.getParameterTypes()), join(m.getExceptionTypes())));
                names.add(m.getName());
                DUE.is(m + " is an object's", false, Modifier.isStatic(m.getModifiers()));
            }
        }
        if (!got.equals(want)) {
            DUE.tell("the methods are " + got);
        }
        for (Method m : TogetherOrders.class.getDeclaredMethods()) {
            if (!Modifier.isPublic(m.getModifiers())) {
                DUE.is(m + " is private", true, Modifier.isPrivate(m.getModifiers()));
                DUE.is(m + " has a public one's name", false, names.contains(m.getName()));
            }
        }
    }

    private static String join(Class<?>[] types) {
        StringBuilder text = new StringBuilder();
        for (Class<?> type : types) {
            text.append(text.length() == 0 ? "" : ",").append(type.getSimpleName());
        }
        return text.toString();
    }

    private static void fields() {
        for (Field f : TogetherOrders.class.getDeclaredFields()) {
            boolean isNone = f.getName().equals("NONE");
            DUE.is(f + " is public", isNone, Modifier.isPublic(f.getModifiers()));
            DUE.is(f + " is private", !isNone, Modifier.isPrivate(f.getModifiers()));
            if (isNone || Modifier.isStatic(f.getModifiers())) {
                DUE.is(f + " is final", true, Modifier.isFinal(f.getModifiers()));
                DUE.is(f + " is static", true, Modifier.isStatic(f.getModifiers()));
            }
        }
        DUE.is("NONE", -1, TogetherOrders.NONE);
    }

    private static void constructors() {
        Constructor<?>[] all = TogetherOrders.class.getDeclaredConstructors();
        DUE.is("constructors", 1, all.length);
        DUE.is("constructor without arguments", 0, all[0].getParameterCount());
        DUE.is("constructor is public", true, Modifier.isPublic(all[0].getModifiers()));
        DUE.is("class is final", true, Modifier.isFinal(TogetherOrders.class.getModifiers()));
        DUE.is("class is public", true, Modifier.isPublic(TogetherOrders.class.getModifiers()));
    }

    private static void classesInside() {
        Class<?>[] inside = TogetherOrders.class.getDeclaredClasses();
        DUE.is("at most twelve classes", true, inside.length + 1 <= 12);
        for (Class<?> c : inside) {
            DUE.is(c + " is static", true, Modifier.isStatic(c.getModifiers()));
            DUE.is(c + " is public", false, Modifier.isPublic(c.getModifiers()) || Modifier.isProtected(c.getModifiers()));
        }
    }

    /** How many objects and arrays hang on an object, and how many fields and elements they have. */
    private static long[] size(Object root) throws IllegalAccessException {
        IdentityHashMap<Object, Boolean> seen = new IdentityHashMap<>();
        Deque<Object> open = new ArrayDeque<>();
        open.add(root);
        seen.put(root, true);
        long elements = 0;
        while (!open.isEmpty()) {
            Object o = open.remove();
            Set<Object> next = java.util.Collections.newSetFromMap(new IdentityHashMap<>());
            if (o.getClass().isArray()) {
                elements += Array.getLength(o);
                for (int i = 0; i < Array.getLength(o) && !o.getClass().getComponentType().isPrimitive(); i++) {
                    next.add(Array.get(o, i));
                }
            } else {
                for (Field f : o.getClass().getDeclaredFields()) {
                    if (!Modifier.isStatic(f.getModifiers())) {
                        elements++;
                        f.setAccessible(true);
                        if (!f.getType().isPrimitive()) {
                            next.add(f.get(o));
                        }
                    }
                }
            }
            for (Object n : next) {
                if (seen.put(n, true) == null) {
                    open.add(n);
                }
            }
        }
        return new long[] {seen.size(), elements};
    }

    private static void room() throws IllegalAccessException {
        TogetherOrders x = new TogetherOrders();
        long[] first = size(x);
        System.out.println(first[0] + " objects and arrays, " + first[1] + " fields and elements");
        DUE.is("few objects", true, first[0] <= 80);
        DUE.is("few elements", true, first[1] <= 5000);
        for (int i = 0; i < 12; i++) {
            x.part();
        }
        for (int i = 0; i < 40; i++) {
            x.box(i % 12, i % 7, i % 5, i % 3, 3, 3);
        }
        x.slant(1, 2, 3);
        for (int i = 0; i < 17; i++) {
            x.glue(0, 1, i);
        }
        x.run();
        x.turnings();
        x.two(2);
        x.out(0);
        x.hands(2, 2);
        long[] last = size(x);
        DUE.is("no object more", first[0], last[0]);
        DUE.is("no element more", first[1], last[1]);
    }
}
