import java.lang.reflect.InvocationTargetException;
import java.lang.reflect.Method;
import java.util.ArrayList;
import java.util.HashMap;
import java.util.List;
import java.util.Map;
import java.util.NoSuchElementException;
import java.util.Random;

/** Drawn runs of calls (the seeds are fixed), wild arguments among them: the class and PlainTown answer alike. */
public final class AgreeTest {
    private static final int RUNS = 250;
    private static final int CALLS = 420;
    private static final String[] ACTS = {"buy", "give", "lend", "claim", "paint", "hours", "day", "undo", "keep", "again"};
    private static final String[] THINGS = {"0", "1", "-", "a", "ab", "abc", "acd", "bdf", "abcdef", "ce"};
    private static final Map<String, Method> CALLED = new HashMap<>();
    private static final List<String> NAMES = new ArrayList<>();

    public static void main(String[] args) {
        for (Method method : TwoAtMost.class.getDeclaredMethods()) {
            if (java.lang.reflect.Modifier.isPublic(method.getModifiers())) {
                CALLED.put(method.getName(), method);
                NAMES.add(method.getName());
            }
        }
        NAMES.sort(null);
        Check.is("calls of the face", NAMES.size(), 49);
        for (int run = 0; run < RUNS; run++) {
            new AgreeTest(run).run();
        }
        Check.end();
    }

    private final Random random;
    private final TwoAtMost x = new TwoAtMost();
    private final PlainTown plain = new PlainTown();
    private final int seed;
    private int calls = 0;

    private AgreeTest(int seed) {
        this.seed = seed;
        random = new Random(seed);
    }

    private void run() {
        both("houses", 1 + random.nextInt(5));
        tellThings();
        tellKinds();
        while (calls < CALLS) {
            int kind = random.nextInt(100);
            if (kind < 3) {
                tellThings();
            } else if (kind < 5) {
                tellKinds();
            } else if (kind < 9) {
                tell(drawnRule(0), "rule");
            } else if (kind < 13) {
                tell(drawnDay(), "day");
            } else if (kind < 15) {
                tell(drawnSigns(), new String[] {"things", "kinds", "rule", "day"}[random.nextInt(4)]);
            } else {
                String name = kind < 50 ? ACTS[random.nextInt(ACTS.length)] : NAMES.get(random.nextInt(NAMES.size()));
                both(name, drawnArguments(name));
            }
            if (random.nextInt(12) == 0) {
                compareAll();
            }
        }
        compareAll();
    }

    private void both(String name, int... arguments) {
        calls++;
        String call = "run " + seed + ", call " + calls + ": " + name + java.util.Arrays.toString(arguments);
        Check.is(call, answer(name, arguments), plain.call(name, arguments));
        int size = (int) plain.call("count", 10);
        Check.is(call + ": numbers of the ROW", x.count(10), size);
        for (int i = 0; i < size && i < x.count(10); i++) {
            Check.is(call + ": row(" + i + ")", x.row(i), plain.call("row", i));
        }
    }

    private long answer(String name, int... arguments) {
        Object[] boxed = new Object[arguments.length];
        for (int i = 0; i < arguments.length; i++) {
            boxed[i] = arguments[i];
        }
        try {
            Object answer = CALLED.get(name).invoke(x, boxed);
            return answer instanceof Boolean ? ((Boolean) answer ? 1 : 0) : ((Number) answer).longValue();
        } catch (InvocationTargetException e) {
            if (e.getCause() instanceof NoSuchElementException) {
                return PlainTown.THROWN;
            }
            throw new IllegalStateException("run " + seed + ", call " + calls + ": " + name, e.getCause());
        } catch (IllegalAccessException e) {
            throw new IllegalStateException(e);
        }
    }

    private void compareAll() {
        for (int what = 0; what < 12; what++) {
            both("count", what);
        }
        for (int i = 0; i < 12; i++) {
            for (int what = 0; what < 5; what++) {
                Check.is("run " + seed + ": thing", answer("thing", i, what), plain.call("thing", i, what));
                Check.is("run " + seed + ": house", answer("house", i, what), plain.call("house", i, what));
                Check.is("run " + seed + ": worth", answer("worth", i, what), plain.call("worth", i, what));
            }
        }
    }

    private int[] drawnArguments(String name) {
        int[] arguments = new int[CALLED.get(name).getParameterCount()];
        for (int i = 0; i < arguments.length; i++) {
            arguments[i] = drawnArgument(name);
        }
        return arguments;
    }

    private int drawnArgument(String name) {
        int wild = random.nextInt(40);
        if (wild == 0) {
            return random.nextInt();
        }
        if (wild == 1) {
            return new int[] {Integer.MIN_VALUE, Integer.MAX_VALUE, -1, 12, 64, 4096}[random.nextInt(6)];
        }
        switch (name) {
            case "store":
            case "name":
                return random.nextInt(1 << random.nextInt(13)) & random.nextInt(4096);
            case "years":
                return random.nextInt(62);
            case "pays":
                return random.nextInt(60);
            case "coins":
            case "rests":
                return random.nextInt(12);
            case "hours":
                return random.nextInt(4) == 0 ? random.nextInt(63) : random.nextInt(3);
            case "had":
                return random.nextInt(5);
            case "houses":
                return random.nextInt(7);
            default:
                return random.nextInt(random.nextBoolean() ? 5 : 13);
        }
    }

    private void tell(String text, String name) {
        for (int i = 0; i < text.length(); i += 4) {
            int four = 0;
            for (int j = i; j < i + 4; j++) {
                four = four << 8 | (j < text.length() ? text.charAt(j) & 255 : 0);
            }
            both("sign", four);
        }
        both("end", text.length());
        both(name);
    }

    private void tellThings() {
        StringBuilder text = new StringBuilder();
        int lines = 1 + random.nextInt(8);
        for (int i = 0; i < lines; i++) {
            String line = THINGS[random.nextInt(THINGS.length)];
            boolean whole = line.charAt(0) < 'a';
            text.append(i == 0 ? "" : ";").append(line).append(whole ? "" : "-01234".substring(drawnHome()).substring(0, 1));
        }
        tell(blurred(text.toString()), "things");
    }

    private int drawnHome() {
        return random.nextInt(20) == 0 ? random.nextInt(6) : random.nextInt(1 + x.count(0));
    }

    private void tellKinds() {
        String[] some = {"a", "b", "c!b", "ab", "a!d", "b!cf", "d", "abc!def", "ce"};
        StringBuilder text = new StringBuilder();
        int lines = 1 + random.nextInt(3);
        for (int i = 0; i < lines; i++) {
            text.append(i == 0 ? "" : ";").append(some[random.nextInt(some.length)]);
        }
        tell(blurred(text.toString()), "kinds");
    }

    /** Now and then one sign becomes another. */
    private String blurred(String text) {
        if (random.nextInt(8) != 0 || text.isEmpty()) {
            return text;
        }
        StringBuilder changed = new StringBuilder(text);
        changed.setCharAt(random.nextInt(text.length()), ";!-abf019hp(".charAt(random.nextInt(12)));
        return changed.toString();
    }

    private String drawnRule(int depth) {
        StringBuilder text = new StringBuilder();
        int parts = 1 + random.nextInt(4);
        for (int i = 0; i < parts; i++) {
            text.append(i == 0 ? "" : "+-*/<>=".substring(random.nextInt(7)).substring(0, 1));
            text.append("-".repeat(random.nextInt(4) == 0 ? random.nextInt(3) : 0));
            if (depth < 5 && random.nextInt(4) == 0) {
                text.append('(').append(drawnRule(depth + 1)).append(')');
            } else if (random.nextBoolean()) {
                text.append("tkhnio".charAt(random.nextInt(6)));
            } else {
                text.append(random.nextInt(random.nextBoolean() ? 10 : 1100));
            }
        }
        String drawn = text.length() > 76 ? text.substring(0, 76) : text.toString();
        return depth == 0 ? blurred(drawn) : drawn;
    }

    private String drawnDay() {
        StringBuilder text = new StringBuilder();
        int acts = random.nextInt(random.nextInt(5) == 0 ? 19 : 6);
        for (int i = 0; i < acts; i++) {
            text.append(i == 0 ? "" : ";");
            int act = random.nextInt(6);
            char thing = (char) ('a' + random.nextInt(random.nextInt(5) == 0 ? 12 : Math.max(1, x.count(1))));
            if (act == 5) {
                text.append('h').append(random.nextInt(random.nextInt(5) == 0 ? 63 : 4));
            } else if (act == 4) {
                text.append('p').append(thing).append((char) ('a' + random.nextInt(6)));
            } else {
                text.append("bglc".charAt(act)).append(thing).append(random.nextInt(random.nextInt(9) == 0 ? 10 : x.count(0)));
            }
        }
        return blurred(text.toString());
    }

    private String drawnSigns() {
        StringBuilder text = new StringBuilder();
        int length = random.nextInt(80);
        for (int i = 0; i < length; i++) {
            text.append("abcdef01;-!".charAt(random.nextInt(11)));
        }
        return text.toString();
    }
}
