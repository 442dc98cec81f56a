import java.lang.reflect.InvocationTargetException;
import java.lang.reflect.Method;
import java.util.NoSuchElementException;
import java.util.TreeMap;

/** What the tests share: counting wrong answers, putting texts, looking at the ROW. */
final class Check {
    private static int wrong = 0;
    private static int asked = 0;
    // The test that runs now, if runAll() runs it.
    private static String test = "";

    private Check() {
    }

    interface Call {
        long answer();
    }

    static void is(String what, long got, long want) {
        asked++;
        if (got != want) {
            wrong++;
            System.out.println(test + what + " answered " + got + ", due is " + want);
        }
    }

    static void is(String what, boolean got, boolean want) {
        is(what, got ? 1 : 0, want ? 1 : 0);
    }

    /** The whole ROW: its numbers, and nothing behind them. */
    static void row(String what, TwoAtMost x, long... want) {
        is(what + ": count(10)", x.count(10), want.length);
        for (int i = 0; i < want.length && i < x.count(10); i++) {
            is(what + ": row(" + i + ")", x.row(i), want[i]);
        }
    }

    static void lacks(String what, Call call) {
        asked++;
        try {
            long answer = call.answer();
            wrong++;
            System.out.println(test + what + " answered " + answer + ", due is NoSuchElementException");
        } catch (NoSuchElementException e) {
            return;
        }
    }

    /** Puts a text behind THE TEXT, four signs a call. */
    static void put(TwoAtMost x, String text) {
        int before = x.count(11);
        for (int i = 0; i < text.length(); i += 4) {
            int four = 0;
            for (int j = i; j < i + 4; j++) {
                four = four << 8 | (j < text.length() ? text.charAt(j) & 255 : 0);
            }
            x.sign(four);
        }
        x.end(before + text.length());
    }

    static int things(TwoAtMost x, String text) {
        put(x, text);
        return x.things();
    }

    static int kinds(TwoAtMost x, String text) {
        put(x, text);
        return x.kinds();
    }

    static int rule(TwoAtMost x, String text) {
        put(x, text);
        return x.rule();
    }

    static int day(TwoAtMost x, String text) {
        put(x, text);
        return x.day();
    }

    /** A new object with so many HOUSES, THINGS and KINDS. */
    static TwoAtMost town(int houses, String things, String kinds) {
        TwoAtMost x = new TwoAtMost();
        x.houses(houses);
        is("things of " + things, things(x, things) >= 0, true);
        is("kinds of " + kinds, kinds(x, kinds) >= 0, true);
        return x;
    }

    /** Every answer is NONE. */
    static void none(String what, long... answers) {
        for (int i = 0; i < answers.length; i++) {
            is(what + ", number " + i, answers[i], -1);
        }
    }

    /** Runs each test of a class, that is each method whose name begins with terms or promise, and ends. */
    static void runAll(Class<?> tests) {
        TreeMap<String, Method> sorted = new TreeMap<>();
        for (Method method : tests.getDeclaredMethods()) {
            if (method.getName().startsWith("terms") || method.getName().startsWith("promise")) {
                sorted.put(method.getName(), method);
            }
        }
        is("there are tests in " + tests.getName(), sorted.isEmpty(), false);
        for (Method method : sorted.values()) {
            run(method);
        }
        test = "";
        end();
    }

    private static void run(Method method) {
        test = method.getName() + ": ";
        int before = asked;
        try {
            method.invoke(null);
        } catch (InvocationTargetException e) {
            wrong++;
            System.out.println(test + "threw " + e.getCause());
        } catch (IllegalAccessException e) {
            throw new IllegalStateException(e);
        }
        if (asked == before) {
            wrong++;
            System.out.println(test + "asked nothing");
        }
    }

    static void end() {
        System.out.println(wrong == 0 ? asked + " answers are as due" : wrong + " of " + asked + " answers are not as due");
        if (wrong != 0) {
            System.exit(1);
        }
    }
}
