import java.io.IOException;
import java.lang.management.ManagementFactory;
import java.lang.reflect.Constructor;
import java.lang.reflect.Field;
import java.lang.reflect.Method;
import java.lang.reflect.Modifier;
import java.nio.file.Files;
import java.nio.file.Path;
import java.util.ArrayList;
import java.util.HashSet;
import java.util.List;
import java.util.Set;
import java.util.TreeSet;
import java.util.regex.Matcher;
import java.util.regex.Pattern;

/** The document's face, and as much of LANGUAGE.md as can be seen from outside; .ci/run starts it in the repo's folder. */
public final class LanguageTest {
    private static final Due due = new Due();

    public static void main(String[] args) throws IOException {
        String source = Files.readString(Path.of("src/main/java/OldPot.java"));
        face(Files.readString(Path.of("../shared/DOC.md")));
        classes();
        words(bare(source));
        lengths(bare(source));
        nothingIsMade();
        due.end();
    }

    private static void holds(String rule, boolean good) {
        due.is(rule, good ? 1 : 0, 1);
    }

    /** Rule 1: the members that the document shows, and no others that can be seen. */
    private static void face(String doc) {
        due.part("the face");
        String block = doc.substring(doc.indexOf("```java"), doc.indexOf("```", doc.indexOf("```java") + 7));
        Set<String> told = new TreeSet<>();
        Matcher m = Pattern.compile("public int (\\w+)\\(([^)]*)\\);").matcher(block);
        while (m.find()) {
            told.add(m.group(1) + "/" + (m.group(2).isEmpty() ? 0 : m.group(2).split(",").length));
        }
        Matcher c = Pattern.compile("([A-Z]+) = (-\\d+)").matcher(block);
        while (c.find()) {
            told.add(c.group(1) + c.group(2));
        }
        Set<String> seen = new TreeSet<>();
        Set<String> shown = new HashSet<>();
        for (Method method : OldPot.class.getDeclaredMethods()) {
            if (!Modifier.isPrivate(method.getModifiers())) {
                holds("public, and of ints: " + method, method.getModifiers() == Modifier.PUBLIC && ofInts(method));
                seen.add(method.getName() + "/" + method.getParameterCount());
                shown.add(method.getName());
            }
        }
        for (Field field : OldPot.class.getDeclaredFields()) {
            if (!Modifier.isPrivate(field.getModifiers())) {
                holds("public: " + field, Modifier.isPublic(field.getModifiers()) && field.getType() == int.class);
                seen.add(field.getName() + constant(field));
            }
        }
        holds("as told: " + told + " and " + seen, told.equals(seen) && told.size() == 48);
        for (Class<?> type : all()) {
            for (Method method : type.getDeclaredMethods()) {
                holds("a name of its own: " + method, type == OldPot.class && Modifier.isPublic(method.getModifiers())
                        || !shown.contains(method.getName()));
            }
        }
        Constructor<?>[] made = OldPot.class.getDeclaredConstructors();
        holds("one constructor", made.length == 1 && Modifier.isPublic(made[0].getModifiers()));
        holds("public and final", OldPot.class.getModifiers() == (Modifier.PUBLIC | Modifier.FINAL));
    }

    private static boolean ofInts(Method method) {
        for (Class<?> type : method.getParameterTypes()) {
            if (type != int.class) {
                return false;
            }
        }
        return method.getReturnType() == int.class;
    }

    private static int constant(Field field) {
        try {
            return field.getInt(null);
        } catch (IllegalAccessException e) {
            return 0;
        }
    }

    private static List<Class<?>> all() {
        List<Class<?>> types = new ArrayList<>(List.of(OldPot.class.getDeclaredClasses()));
        types.add(OldPot.class);
        return types;
    }

    /** Rules 2, 5 and 11. */
    private static void classes() {
        due.part("the classes");
        holds("twelve at most", all().size() <= 12);
        for (Class<?> type : all()) {
            holds("static: " + type, type == OldPot.class || Modifier.isStatic(type.getModifiers()));
            int own = 0;
            for (Field field : type.getDeclaredFields()) {
                if (Modifier.isStatic(field.getModifiers())) {
                    holds("final: " + field, Modifier.isFinal(field.getModifiers()));
                    holds("a constant: " + field, Set.of("int", "long", "boolean", "char", "String", "int[]", "long[]",
                            "char[]", "byte[]").contains(field.getType().getSimpleName()));
                } else {
                    own++;
                }
            }
            holds("twenty fields at most: " + type, own <= 20);
            for (Method method : type.getDeclaredMethods()) {
                holds("seven parameters at most: " + method, method.getParameterCount() <= 7);
            }
        }
    }

    /** The source without comments, and with empty texts and signs. */
    private static String bare(String source) {
        String noComments = source.replaceAll("(?s)/\\*.*?\\*/", " ").replaceAll("//[^\n]*", "");
        return noComments.replaceAll("\"[^\"\n]*\"", "\"\"").replaceAll("'[^'\n]'", "' '");
    }

    /** Rules 2, 4, 6, 10 and 13. */
    private static void words(String code) {
        due.part("the words");
        String[] never = {"throw", "throws", "try", "catch", "synchronized", "assert", "import", "package", "protected",
            "volatile", "transient", "native", "float", "double", "Object", "hashCode", "toString", "equals", "Random",
            "Thread", "Class", "var", "yield", "record", "sealed"};
        for (String word : never) {
            holds("no " + word, !Pattern.compile("\\b" + word + "\\b").matcher(code).find());
        }
        holds("no lambda", !code.contains("->"));
        holds("no method reference", !code.contains("::"));
        holds("no block of a class", !Pattern.compile("static\\s*\\{").matcher(code).find());
        holds("no text joined by +", !Pattern.compile("\"\\s*\\+|\\+\\s*\"").matcher(code).find());
        holds("nothing of Math that ends in Exact", !code.contains("Exact("));
        holds("System.arraycopy alone", !code.replace("System.arraycopy(", "").contains("System"));
        Matcher math = Pattern.compile("Math\\.(\\w+)").matcher(code);
        while (math.find()) {
            holds("Math." + math.group(1), Set.of("min", "max", "abs").contains(math.group(1)));
        }
        holds("no sign above 127", code.chars().allMatch(c -> c < 128));
        holds("no endless loop", !Pattern.compile("while\\s*\\(\\s*true|for\\s*\\([^;]*;\\s*;").matcher(code).find());
    }

    /** Rule 11: a method ends by a brace that stands as far in as its first line. */
    private static void lengths(String code) {
        due.part("the methods");
        String[] lines = code.split("\n", -1);
        int methods = 0;
        for (int i = 0; i < lines.length; i++) {
            if (lines[i].matches(" {4}( {4})?\\S.*\\) \\{") && !lines[i].contains("class")) {
                String end = lines[i].replaceAll("\\S.*", "") + "}";
                int length = 1;
                while (!lines[i + length].equals(end)) {
                    length++;
                }
                methods++;
                holds("sixty lines at most: " + lines[i], length <= 60);
            }
        }
        holds("methods were found", methods > 90);
    }

    /** What is made stays with the object for good, so no call makes anything. */
    private static void nothingIsMade() {
        due.part("what is made");
        com.sun.management.ThreadMXBean threads = (com.sun.management.ThreadMXBean) ManagementFactory.getThreadMXBean();
        long thread = Thread.currentThread().getId();
        OldPot x = new OldPot();
        int sum = everyCall(x);
        long ahead = threads.getThreadAllocatedBytes(thread);
        for (int i = 0; i < 20; i++) {
            sum += everyCall(x);
        }
        long made = threads.getThreadAllocatedBytes(thread) - ahead;
        holds("the calls made " + made + " bytes (and answered " + sum + ")", made < 1000);
    }

    private static int everyCall(OldPot x) {
        int sum = x.seed(5) + x.deal(8) + x.thing(1, 2) + x.keep() + x.toss(0, 50) + x.as(0, 1) + x.turns(0, 2);
        sum += x.set(0, 2, 900) + x.pot(0, 90) + x.pot(1, 10) + x.feed(0x66616465, 0x20672a32, 0x2b742f32) + x.text();
        sum += x.textTold(0, 1) + x.why(0) + x.feed(0x6c6f7420, 0x642b2831, 0x20202020) + x.trim(8) + x.text();
        for (int what = 0; what < 9; what++) {
            sum += x.told(0, what) + x.count(what) + x.grams(what) + x.behind(0, 50, what);
        }
        sum += x.days(3) + x.taste() + x.lot() + x.tasted(0) + x.steer(100, 9, 1) + x.leastPot(0, 100, 9);
        sum += x.nearest(40) + x.halved() + x.differs() + x.sheet(0, 0, 9) + x.sheet(1, 1, 9) + x.mark(0, 1, 50);
        sum += x.mark(1, 1, Due.NONE) + x.thrown(0, 0) + x.reads(1) + x.copy(0, 0, 0, 2, 4) + x.pour(0);
        sum += x.lay(0, 1, 0) + x.lay(1, 2, 0) + x.lay(2, 3, 7) + x.ask(0, 0) + x.item(1, 1) + x.rest(2, 3);
        return sum + x.tell(1) + x.check(20) + x.back();
    }
}
