import java.io.IOException;
import java.lang.reflect.Constructor;
import java.lang.reflect.Field;
import java.lang.reflect.Method;
import java.lang.reflect.Modifier;
import java.nio.file.Files;
import java.nio.file.Path;
import java.util.Set;
import java.util.TreeSet;
import java.util.regex.Matcher;
import java.util.regex.Pattern;

/** The public face is the document's and no more; and the rules of LANGUAGE.md that a text can be searched for. */
public final class FaceTest {
    private static final Check CHECK = new Check("FaceTest");
    /** Each public method with the number of its int parameters. */
    private static final String METHODS = "thing4 ofThing2 on1 drum1 rope3 ofRope2 tie2 untie1 weight2 bound1 pull0 "
        + "turn1 stopped1 free1 snap1 hold1 scene3 change2 told2 work1 men1 feed2 play0 back0 candle1 minutes1 trim1 "
        + "light1 flat2 want2 paint0 given1 count1";
    private static final String[] RULED_OUT = {"\\bthrow\\b", "\\bthrows\\b", "\\btry\\b", "\\bcatch\\b",
        "\\bsynchronized\\b", "\\bassert\\b", "->", "::", "\\bprotected\\b", "\\bpackage\\b", "Exact\\b",
        "\\bSystem\\.(?!arraycopy)", "\\bRandom\\b", "\\bThread\\b", "\\bhashCode\\b", "\\bstatic\\s*\\{"};
    /** What the class takes of the library, all of it within rule 4. */
    private static final Set<String> LIBRARY = Set.of("Arrays.fill", "Integer.bitCount", "Math.abs", "Math.max",
        "Math.min", "System.arraycopy");
    private static final Pattern LIBRARY_CALL =
        Pattern.compile("\\b(Arrays|Boolean|Character|Double|Integer|List|Long|Math|String|System)\\.\\w+");
    /** A divisor that is neither a number nor a constant. */
    private static final Pattern OPEN_DIVISOR = Pattern.compile("[/%]=?\\s*[(a-z]");
    private static final Pattern METHOD_HEAD = Pattern.compile("( {4}| {8})\\w[^;=]*\\) \\{");

    public static void main(String[] args) throws IOException {
        constants();
        constructor();
        methods();
        nestedClasses();
        source();
        CHECK.end();
    }

    private static void constants() {
        CHECK.row("constants", new int[] {StageMachine.BAD, StageMachine.NOT, StageMachine.FULL, StageMachine.BIG,
            StageMachine.STOPPED, StageMachine.VOID}, -1, -2, -3, -4, -5, -2000000000);
        Set<String> open = new TreeSet<>();
        for (Field f : StageMachine.class.getDeclaredFields()) {
            if (!Modifier.isPrivate(f.getModifiers())) {
                open.add(f.getName());
            }
            CHECK.holds("static is final: " + f.getName(),
                !Modifier.isStatic(f.getModifiers()) || Modifier.isFinal(f.getModifiers()));
        }
        CHECK.holds("open fields " + open, open.equals(Set.of("BAD", "NOT", "FULL", "BIG", "STOPPED", "VOID")));
    }

    private static void constructor() {
        Constructor<?>[] all = StageMachine.class.getDeclaredConstructors();
        CHECK.due("1 constructors", all.length, 1);
        CHECK.holds("1 public, without parameters",
            Modifier.isPublic(all[0].getModifiers()) && all[0].getParameterCount() == 0);
        int modifiers = StageMachine.class.getModifiers();
        CHECK.holds("1 the class is public and final", Modifier.isPublic(modifiers) && Modifier.isFinal(modifiers));
    }

    private static void methods() {
        Set<String> open = new TreeSet<>();
        Set<String> names = new TreeSet<>();
        for (Method m : StageMachine.class.getDeclaredMethods()) {
            if (!Modifier.isPrivate(m.getModifiers())) {
                open.add(m.getName() + m.getParameterCount());
                names.add(m.getName());
                CHECK.holds(m.getName() + " answers an int", m.getReturnType() == int.class);
                for (Class<?> type : m.getParameterTypes()) {
                    CHECK.holds(m.getName() + " takes ints", type == int.class);
                }
            }
        }
        CHECK.holds("methods " + open, open.equals(new TreeSet<>(Set.of(METHODS.split(" ")))));
        for (Class<?> nested : StageMachine.class.getDeclaredClasses()) {
            for (Method m : nested.getDeclaredMethods()) {
                CHECK.holds(m + " bears no public name", !names.contains(m.getName()));
                CHECK.holds(m + " takes seven at most", m.getParameterCount() <= 7);
            }
        }
    }

    private static void nestedClasses() {
        int many = 1;
        for (Class<?> nested : StageMachine.class.getDeclaredClasses()) {
            many++;
            CHECK.holds(nested + " is private and static", Modifier.isPrivate(nested.getModifiers())
                && Modifier.isStatic(nested.getModifiers()));
            int fields = 0;
            for (Field f : nested.getDeclaredFields()) {
                fields += Modifier.isStatic(f.getModifiers()) ? 0 : 1;
            }
            CHECK.holds(nested + " has twenty fields at most", fields <= 20);
        }
        CHECK.holds("twelve classes at most, here " + many, many <= 12);
    }

    private static void source() throws IOException {
        String text = Files.readString(Path.of("src/main/java/StageMachine.java"));
        String code = text.replaceAll("(?s)/\\*.*?\\*/", "").replaceAll("//[^\n]*", "");
        for (String word : RULED_OUT) {
            CHECK.holds("no " + word, !Pattern.compile(word).matcher(code).find());
        }
        CHECK.holds("ASCII alone", text.chars().allMatch(c -> c < 128));
        for (String line : code.split("\n")) {
            if (line.startsWith("import")) {
                CHECK.holds(line, line.equals("import java.util.Arrays;"));
            }
        }
        library(code);
        divisors(code);
        lengths(text.split("\n"));
    }

    private static void library(String code) {
        Matcher call = LIBRARY_CALL.matcher(code.replace("import java.util.Arrays;", ""));
        while (call.find()) {
            CHECK.holds(call.group() + " is allowed", LIBRARY.contains(call.group()));
        }
    }

    /** Each stands behind a look at it, in the same line. */
    private static void divisors(String code) {
        for (String line : code.split("\n")) {
            if (OPEN_DIVISOR.matcher(line).find()) {
                CHECK.holds("looked at ahead: " + line, line.contains("divisor == 0 ? 0 :"));
            }
        }
    }

    /** Heads of loops and branches match, too; they are within a method, so they do no harm. */
    private static void lengths(String[] lines) {
        int heads = 0;
        for (int i = 0; i < lines.length; i++) {
            Matcher head = METHOD_HEAD.matcher(lines[i]);
            if (head.matches()) {
                heads++;
                int end = i;
                while (end < lines.length && !lines[end].equals(head.group(1) + "}")) {
                    end++;
                }
                CHECK.holds("sixty lines at most: " + lines[i], end - i < 60);
            }
        }
        CHECK.holds("heads were found, here " + heads, heads > 100);
    }
}
