import java.io.IOException;
import java.net.URI;
import java.net.URL;
import java.net.URLClassLoader;
import java.nio.file.DirectoryStream;
import java.nio.file.Files;
import java.nio.file.Path;
import java.util.ArrayList;
import java.util.List;
import java.util.function.LongBinaryOperator;
import java.util.regex.Matcher;
import java.util.regex.Pattern;

/** README.md: its code compiles and answers as it says, and its tables leave out no call, constant or test. */
public final class ReadmeTest {
    private static final Due due = new Due();
    /** A call, and behind it what it answers: a number or a constant. */
    private static final Pattern CALL = Pattern.compile("(.*\\));\\s*// (-?\\d+|[A-Z]+)(:.*)?");
    private static final Pattern BLOCK = Pattern.compile("(?s)```java\n(.*?)```");

    public static void main(String[] args) throws IOException, InterruptedException, ReflectiveOperationException {
        String readme = Files.readString(Path.of("README.md"));
        String document = Files.readString(Path.of("../shared/DOC.md"));
        calls(readme, document);
        refusals(readme, document);
        tests(readme);
        examples(readme);
        due.end();
    }

    private static void stands(String what, String readme) {
        due.is("there is " + what, readme.contains(what) ? 1 : 0, 1);
    }

    private static void calls(String readme, String document) {
        due.part("calls and constants");
        Matcher call = Pattern.compile("public int (\\w+)\\(([^)]*)\\);").matcher(document);
        int calls = 0;
        while (call.find()) {
            stands("| `" + call.group(1) + "(" + call.group(2).replace("int ", "") + ")` |", readme);
            calls++;
        }
        due.is("how many calls", calls, 40);
        Matcher constant = Pattern.compile("([A-Z]+) = -\\d+").matcher(document);
        while (constant.find()) {
            stands("| `" + constant.group(1) + "` |", readme);
        }
    }

    /** The last cell of a call's row has the constants that its promise names, in the promise's order. */
    private static void refusals(String readme, String document) {
        due.part("what is answered else");
        Matcher promise = Pattern.compile("`int (\\w+)\\([^)]*\\)`: (.*)").matcher(document);
        while (promise.find()) {
            Matcher row = Pattern.compile("\\| `" + promise.group(1) + "\\(.*\\|([^|\n]*)\\|").matcher(readme);
            String told = row.find() ? constants(row.group(1), "`([A-Z]+)`") : "no row";
            String wanted = constants(tail(promise.group(2)), "(?:^|; )([A-Z]+)");
            due.is(promise.group(1) + "(), " + told + " for " + wanted, told.equals(wanted) ? 1 : 0, 1);
        }
    }

    /** What stands behind the answer of a promise: its refusals, one behind the other. */
    private static String tail(String promise) {
        Matcher m = Pattern.compile("(?:\\. |FAULT; )((?:BAD|NO|FULL|NONE)\\b.*)").matcher(promise);
        return m.find() ? m.group(1) : "";
    }

    private static String constants(String text, String pattern) {
        List<String> all = new ArrayList<>();
        Matcher m = Pattern.compile(pattern).matcher(text);
        while (m.find()) {
            all.add(m.group(1));
        }
        return all.toString();
    }

    private static void tests(String readme) throws IOException {
        due.part("tests");
        try (DirectoryStream<Path> files = Files.newDirectoryStream(Path.of("src/test/java"), "*.java")) {
            for (Path file : files) {
                stands("`" + file.getFileName().toString().replace(".java", "") + "`", readme);
            }
        }
    }

    /** Every block of code is a part of one class; that is compiled and run. */
    private static void examples(String readme) throws IOException, InterruptedException, ReflectiveOperationException {
        due.part("the code");
        StringBuilder members = new StringBuilder();
        StringBuilder runs = new StringBuilder();
        Matcher block = BLOCK.matcher(readme);
        int asked = 0;
        while (block.find()) {
            boolean isMember = block.group(1).startsWith("static ");
            (isMember ? members : runs).append(isMember ? block.group(1) : "{\n" + asking(block.group(1)) + "}\n");
            asked += isMember ? 0 : 1;
        }
        due.is("runs in the code", asked, 4);
        Path folder = Files.createTempDirectory("readme");
        Path source = folder.resolve("Readme.java");
        Files.writeString(source, "public final class Readme {\n" + members
                + "public static void run(java.util.function.LongBinaryOperator due) {\n" + runs + "}\n}\n");
        int failed = new ProcessBuilder("javac", "-cp", System.getProperty("java.class.path"), "-d", folder.toString(),
                source.toString()).inheritIO().start().waitFor();
        due.is("the compiler", failed, 0);
        if (failed == 0) {
            run(folder.toUri());
        }
        remove(folder);
    }

    /** Each call that has an answer behind it is handed over with that answer; a line without one stays as it is. */
    private static String asking(String block) {
        StringBuilder s = new StringBuilder();
        for (String line : block.split("\n")) {
            Matcher call = CALL.matcher(line);
            if (call.matches()) {
                String want = call.group(2).matches("[A-Z]+") ? "OldPot." + call.group(2) : call.group(2);
                s.append("due.applyAsLong(").append(call.group(1)).append(", ").append(want).append(");\n");
            } else {
                due.is("a line without an answer: " + line, line.equals("OldPot x = new OldPot();") ? 1 : 0, 1);
                s.append(line).append("\n");
            }
        }
        return s.toString();
    }

    private static void run(URI folder) throws IOException, ReflectiveOperationException {
        try (URLClassLoader loader = new URLClassLoader(new URL[] {folder.toURL()})) {
            int[] calls = {0};
            LongBinaryOperator ask = (got, want) -> {
                calls[0]++;
                due.is("call " + calls[0] + " in README.md", got, want);
                return got;
            };
            loader.loadClass("Readme").getMethod("run", LongBinaryOperator.class).invoke(null, ask);
            due.is("calls were made", calls[0] > 40 ? 1 : 0, 1);
        }
    }

    private static void remove(Path folder) throws IOException {
        try (DirectoryStream<Path> files = Files.newDirectoryStream(folder)) {
            for (Path file : files) {
                Files.delete(file);
            }
        }
        Files.delete(folder);
    }
}
