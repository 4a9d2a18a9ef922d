import java.io.IOException;
import java.lang.reflect.Constructor;
import java.lang.reflect.Field;
import java.lang.reflect.Method;
import java.lang.reflect.Modifier;
import java.nio.file.Files;
import java.nio.file.Path;
import java.util.Arrays;
import java.util.Set;
import java.util.TreeSet;
import java.util.regex.Matcher;
import java.util.regex.Pattern;

/** The document's face and no other visible member, in the part of the language that is left to us. */
public final class FaceTest {
    private static final String FACE = """
        int row(int,int)
        int lay(int,int,int)
        int at(int,int)
        int tear(int)
        int copy(int,int,int,int,int)
        int mean(int)
        int text(int,int)
        int put(int,int,int)
        int fault(int)
        int delta(int)
        int arm(int,int)
        int mark(int,int)
        int need(int,int)
        int awaits(int,int,int)
        int stamp(int)
        int season()
        int leave(int)
        int undo(int)
        int now()
        int water(int)
        int keep(int)
        int on(int)
        int run(int)
        int best(int,int)
        int fewest(int,int,int)
        int dies()
        int barge(int,int)
        int fits(int)
        int opened(int)
        int settle(int)
        int stalled()
        int loosen(int)
        int eels(int,int)
        int odds(int)
        int lots(int,int)
        int asked()
        long upper()
        long lower()
        int count(int)
        int finding()
        int findings(int)
        long digest()
        """;

    public static void main(String[] args) throws IOException {
        methods();
        fieldsAndConstructors();
        nestedClasses();
        formOf(RiverBureau.class);
        for (Class<?> c : RiverBureau.class.getDeclaredClasses()) {
            formOf(c);
        }
        words(Files.readString(Path.of("src/main/java/RiverBureau.java")));
        Due.end();
    }

    private static void methods() {
        Set<String> wanted = new TreeSet<>(Arrays.asList(FACE.strip().split("\\s*\n\\s*")));
        Set<String> there = new TreeSet<>();
        Set<String> names = new TreeSet<>();
        for (Method m : RiverBureau.class.getDeclaredMethods()) {
            if (!Modifier.isPrivate(m.getModifiers())) {
                StringBuilder types = new StringBuilder();
                for (Class<?> type : m.getParameterTypes()) {
                    types.append(types.length() > 0 ? "," : "").append(type);
                }
                there.add(m.getReturnType() + " " + m.getName() + "(" + types + ")");
                names.add(m.getName());
                Due.due(m + " is public, not static", m.getModifiers(), Modifier.PUBLIC);
            }
        }
        Due.due("the document's calls: " + there, there.equals(wanted) ? 1 : 0, 1);
        for (Class<?> c : RiverBureau.class.getDeclaredClasses()) {
            for (Method m : c.getDeclaredMethods()) {
                Due.due(m + " has a name of its own", names.contains(m.getName()) ? 1 : 0, 0);
            }
        }
        for (Method m : RiverBureau.class.getDeclaredMethods()) {
            boolean hides = Modifier.isPrivate(m.getModifiers()) && names.contains(m.getName());
            Due.due(m + " has a name of its own", hides ? 1 : 0, 0);
        }
    }

    private static void fieldsAndConstructors() {
        Due.due("public and final", RiverBureau.class.getModifiers(), Modifier.PUBLIC | Modifier.FINAL);
        Set<String> shown = new TreeSet<>();
        for (Field f : RiverBureau.class.getDeclaredFields()) {
            if (!Modifier.isPrivate(f.getModifiers())) {
                shown.add(f.getName());
                Due.due(f + " is a constant", f.getModifiers(), Modifier.PUBLIC | Modifier.STATIC | Modifier.FINAL);
            }
        }
        String[] constants = {"BAD", "FULL", "FINDING", "STATE", "SPENT", "NONE"};
        Due.due("constants " + shown, shown.equals(new TreeSet<>(Arrays.asList(constants))) ? 1 : 0, 1);
        int[] values = {
            RiverBureau.BAD, RiverBureau.FULL, RiverBureau.FINDING, RiverBureau.STATE, RiverBureau.SPENT,
            RiverBureau.NONE};
        Due.due("their values", Arrays.equals(values, new int[] {-1, -2, -3, -4, -6, -9}) ? 1 : 0, 1);
        Constructor<?>[] makers = RiverBureau.class.getDeclaredConstructors();
        Due.due("constructors", makers.length, 1);
        Due.due("it takes nothing", makers[0].getParameterCount(), 0);
        Due.due("it is public", makers[0].getModifiers(), Modifier.PUBLIC);
    }

    private static void nestedClasses() {
        Class<?>[] inside = RiverBureau.class.getDeclaredClasses();
        Due.due("at most some twelve classes", inside.length <= 12 ? 1 : 0, 1);
        for (Class<?> c : inside) {
            Due.due(c + " is static", Modifier.isStatic(c.getModifiers()) ? 1 : 0, 1);
            Due.due(c + " is not shown", c.getModifiers() & (Modifier.PUBLIC | Modifier.PROTECTED), 0);
        }
    }

    /** Rules 5 and 11: static fields are constants, few fields, few parameters. */
    private static void formOf(Class<?> c) {
        int fields = 0;
        for (Field f : c.getDeclaredFields()) {
            boolean fixed = Modifier.isFinal(f.getModifiers());
            fields += Modifier.isStatic(f.getModifiers()) ? 0 : 1;
            Due.due(f + " is static only as a constant", Modifier.isStatic(f.getModifiers()) && !fixed ? 1 : 0, 0);
        }
        Due.due(c + " has some twenty fields at most", fields <= 20 ? 1 : 0, 1);
        for (Method m : c.getDeclaredMethods()) {
            Due.due(m + " takes seven parameters at most", m.getParameterCount() <= 7 ? 1 : 0, 1);
        }
        for (Constructor<?> maker : c.getDeclaredConstructors()) {
            Due.due(maker + " takes seven parameters at most", maker.getParameterCount() <= 7 ? 1 : 0, 1);
        }
    }

    private static void words(String source) {
        String[] lines = source.split("\n");
        StringBuilder code = new StringBuilder();
        for (String line : lines) {
            String bare = line.strip();
            boolean remark = bare.startsWith("//") || bare.startsWith("*") || bare.startsWith("/*");
            code.append(remark ? "" : line).append('\n');
        }
        String[] ruledOut = {
            "throw", "throws", "try", "catch", "finally", "synchronized", "assert", "import static", "package", "->",
            "::", "System\\.(?!arraycopy)", "Thread", "Random", "Exact", "protected", "double", "float", "volatile",
            "numberOf\\w+", "String", "Object", "List"};
        for (String word : ruledOut) {
            String edge = word.matches("\\w+") ? "\\b" : "";
            Matcher m = Pattern.compile(edge + word + edge).matcher(code);
            Due.due("'" + word + "' in the source", m.find() ? 1 : 0, 0);
        }
        int outer = 0;
        int longest = 0;
        int start = 0;
        for (int k = 0; k < lines.length; k++) {
            outer += lines[k].startsWith("import ") && !lines[k].equals("import java.util.Arrays;") ? 1 : 0;
            if (lines[k].endsWith(") {") && lines[k].matches(" {4}(?: {4})?[A-Za-z].*")) {
                start = k;
            }
            if (lines[k].matches(" {4}(?: {4})?}")) {
                longest = Math.max(longest, k - start + 1);
                start = k;
            }
        }
        Due.due("other imports", outer, 0);
        Due.due("methods stay short", longest <= 60 ? 1 : 0, 1);
    }
}
