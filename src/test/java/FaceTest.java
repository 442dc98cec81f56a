import java.io.IOException;
import java.lang.reflect.Constructor;
import java.lang.reflect.Field;
import java.lang.reflect.Method;
import java.lang.reflect.Modifier;
import java.nio.file.Files;
import java.nio.file.Path;
import java.util.HashSet;
import java.util.Set;
import java.util.TreeSet;

/** The face is the document's and nothing more; the source keeps to what LANGUAGE.md leaves and can be seen by its words. */
public final class FaceTest {
    private static final String FACE = "sign/1 end/1 houses/1 things/0 kinds/0 rule/0 thing/2 kind/2 house/2 worth/2 set/1 "
        + "sheet/4 buy/2 give/2 lend/2 claim/2 paint/2 hours/1 day/0 undo/0 broken/0 would/2 rid/1 most/1 alike/2 trust/1 "
        + "visit/1 store/1 strike/1 border/0 exchange/2 name/1 deal/0 vote/0 pays/3 coins/1 had/2 heard/2 forget/0 whose/0 "
        + "ask/0 seen/3 finds/3 rests/2 years/2 keep/1 again/1 count/1 row/1";
    private static final String[] BARRED = {"->", "::", "catch", "finally", "synchronized", "assert ", "java.util.function",
        "util.Random", "Math.random", "System.out", "Exact(", "nanoTime", "currentTime", "protected ", "goto", "var "};

    public static void main(String[] args) throws IOException {
        Check.is("public and final", Modifier.isPublic(TwoAtMost.class.getModifiers())
            && Modifier.isFinal(TwoAtMost.class.getModifiers()), true);
        methods();
        fields();
        Constructor<?>[] constructors = TwoAtMost.class.getDeclaredConstructors();
        Check.is("constructors", constructors.length, 1);
        Check.is("constructor without arguments", constructors[0].getParameterCount(), 0);
        innerClasses();
        words();
        headsOfTheDocument();
        Check.end();
    }

    private static void methods() {
        Set<String> want = new TreeSet<>(Set.of(FACE.split(" ")));
        Set<String> got = new TreeSet<>();
        Set<String> faceNames = new HashSet<>();
        for (Method method : TwoAtMost.class.getDeclaredMethods()) {
            if (Modifier.isPublic(method.getModifiers())) {
                got.add(method.getName() + "/" + method.getParameterCount());
                faceNames.add(method.getName());
            } else {
                Check.is(method.getName() + " is private", Modifier.isPrivate(method.getModifiers()), true);
            }
        }
        if (!got.equals(want)) {
            System.out.println("face: " + got + ", due is " + want);
        }
        Check.is("face as due", got.equals(want), true);
        for (Method method : TwoAtMost.class.getDeclaredMethods()) {
            boolean twice = !Modifier.isPublic(method.getModifiers()) && faceNames.contains(method.getName());
            Check.is(method.getName() + " bears a name of the face", twice, false);
        }
    }

    private static void fields() {
        for (Field field : TwoAtMost.class.getDeclaredFields()) {
            boolean open = !Modifier.isPrivate(field.getModifiers());
            Check.is(field.getName() + " is open", open, field.getName().equals("NONE"));
            boolean changing = Modifier.isStatic(field.getModifiers()) && !Modifier.isFinal(field.getModifiers());
            Check.is(field.getName() + " is static and not final", changing, false);
        }
    }

    private static void innerClasses() {
        Class<?>[] classes = TwoAtMost.class.getDeclaredClasses();
        Check.is("at most twelve classes with the outer one", classes.length <= 11, true);
        for (Class<?> inner : classes) {
            boolean fits = Modifier.isStatic(inner.getModifiers()) && !Modifier.isPublic(inner.getModifiers());
            Check.is(inner.getName() + " is static and not public", fits, true);
            Check.is(inner.getName() + " has at most twenty fields", inner.getDeclaredFields().length <= 20, true);
        }
    }

    private static void words() throws IOException {
        String source = Files.readString(Path.of("src/main/java/TwoAtMost.java"));
        for (String word : BARRED) {
            Check.is("'" + word + "' stands in the source", source.contains(word), false);
        }
        int imports = source.split("\nimport ", -1).length - 1 + (source.startsWith("import ") ? 1 : 0);
        Check.is("imports", imports, 1);
        for (char c : source.toCharArray()) {
            if (c > 126) {
                Check.is("a sign above 126", c, 0);
            }
        }
    }

    /** Each constant and the head of each call stand in the source as the document's public face writes them. */
    private static void headsOfTheDocument() throws IOException {
        String source = Files.readString(Path.of("src/main/java/TwoAtMost.java"));
        int heads = 0;
        for (String line : Files.readAllLines(Path.of("../shared/DOC.md"))) {
            if (line.startsWith("    public ")) {
                boolean constant = line.contains("=");
                String head = constant ? line : line.substring(0, line.length() - 1) + " {";
                Check.is("'" + head.trim() + "' stands in the source", source.contains("\n" + head + "\n"), true);
                heads++;
            }
        }
        Check.is("heads in the document", heads, 51);
    }
}
