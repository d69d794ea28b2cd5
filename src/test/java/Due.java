import java.lang.reflect.InvocationTargetException;
import java.lang.reflect.Method;
import java.lang.reflect.Modifier;
import java.util.Map;
import java.util.TreeMap;

/** Compares answers with the ones that are due and counts those that are not. */
final class Due {
    /** A call that answers a number, and may throw. */
    interface Call {
        long answer();
    }

    /** A call that answers whether, and may throw. */
    interface Ask {
        boolean answer();
    }

    private final String test;
    private String part = "";
    private int wrong = 0;

    Due(String test) {
        this.test = test;
    }

    void is(String call, long want, long got) {
        if (got != want) {
            tell(call + " answered " + got + ", due is " + want);
        }
    }

    void is(String call, boolean want, boolean got) {
        is(call, bit(want), bit(got));
    }

    void is(String call, String want, String got) {
        if (!got.equals(want)) {
            tell(call + " answered " + got + ", due is " + want);
        }
    }

    void noState(String call, Call made) {
        fails(call, IllegalStateException.class, made);
    }

    void noState(String call, Ask made) {
        noState(call, number(made));
    }

    void noIndex(String call, Call made) {
        fails(call, IndexOutOfBoundsException.class, made);
    }

    void noIndex(String call, Ask made) {
        noIndex(call, number(made));
    }

    void noArgument(String call, Call made) {
        fails(call, IllegalArgumentException.class, made);
    }

    void noArgument(String call, Ask made) {
        noArgument(call, number(made));
    }

    private static Call number(Ask made) {
        return () -> bit(made.answer());
    }

    private void fails(String call, Class<? extends RuntimeException> want, Call made) {
        String got = told(made);
        if (!got.equals("throws." + want.getSimpleName())) {
            tell(call + " answered " + got + ", due is throws." + want.getSimpleName());
        }
    }

    /** What a call answers, as the issues write it. */
    static String told(Call made) {
        try {
            return Long.toString(made.answer());
        } catch (RuntimeException e) {
            return "throws." + e.getClass().getSimpleName();
        }
    }

    static String told(Ask made) {
        return told(number(made));
    }

    void tell(String fault) {
        wrong++;
        if (wrong <= 40) {
            System.out.println(test + part + ": " + fault);
        }
    }

    boolean hasFault() {
        return wrong > 0;
    }

    /** Runs every case of a class, each one a static method without arguments, in their names' order. */
    void runCases(Class<?> holder) throws IllegalAccessException {
        Map<String, Method> cases = new TreeMap<>();
        for (Method m : holder.getDeclaredMethods()) {
            if (Modifier.isStatic(m.getModifiers()) && m.getParameterCount() == 0 && !m.isSynthetic()
                    && m.getReturnType() == void.class) {
                cases.put(m.getName(), m);
            }
        }
        for (Method m : cases.values()) {
            part = " " + m.getName();
            try {
                m.invoke(null);
            } catch (InvocationTargetException e) {
                tell("threw " + e.getCause());
            }
        }
        part = "";
        System.out.println(cases.size() + " cases");
        if (cases.isEmpty()) {
            tell("there is no case");
        }
    }

    /** Ends the program, with exit code 1 if an answer was wrong. */
    void end() {
        System.out.println(wrong == 0 ? "all answers are as due" : wrong + " answers are not as due");
        System.exit(wrong == 0 ? 0 : 1);
    }

    static long bit(boolean answer) {
        return answer ? 1 : 0;
    }
}
