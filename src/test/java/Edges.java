import java.io.IOException;
import java.nio.file.Files;
import java.nio.file.Path;
import java.util.ArrayList;
import java.util.List;
import java.util.Set;

/**
 * The boundary cases of one sentence of the document at a time, as runs of calls on new objects, in lines such as
 * "toss(0, 10000) => BAD; 3 x days(300); text 'lot d' => 0; tape 'lot d'". Behind each call that is refused, or that
 * only tells, the object is held against one that has not heard that call: both must tell the same.
 */
final class Edges {
    /** What only tells or thinks, whatever it answers; check() is one of them but for the numbers that wait. */
    private static final Set<String> TELLS = Set.of("told", "as", "taste", "grams", "lot", "behind", "tasted", "steer",
            "leastPot", "nearest", "thrown", "halved", "differs", "textTold", "why", "reads", "ask", "item", "rest",
            "count", "check");
    private static final Set<Integer> REFUSED = Set.of(Due.BAD, Due.NO, Due.FULL, Due.NOTHING, Due.KIND, Due.INDEX,
            Due.SIZE);

    /**
     * A pot with some of everything, in which a change would be seen: now is not as the image, sheet 2 is missing,
     * slots 3 and 4 hold nothing, the numbers that wait are the image's first day, the tape is a text.
     */
    static final String LIVED = """
            seed(77); thing(0, 5); thing(1, 4); thing(2, 9); thing(3, 2); thing(4, 8); thing(5, 3)
            toss(0, 1000); toss(1, 500); toss(2, 700); toss(3, 300); toss(4, 900); toss(5, 250)
            days(2); text 'fade g*3'; text 'bill t+w'; text 'lot d*1000+t'; keep()
            days(1); pot(0, 120); pot(1, 30); text 'lot t-d'; turns(0, 5); set(1, 3, 12); seed(-9)
            sheet(0, 0, 3); mark(0, 0, 11); mark(0, 1, -5)
            sheet(1, 1, 4); mark(1, 0, 99999); mark(1, 1, NONE); mark(1, 2, -7); sheet(3, 0, 24); mark(3, 23, 6)
            lay(0, 1, 3); lay(1, 2, 1); lay(2, 3, 1234567); tell(82); tell(1681); tape 'lot d*7'
            """;
    /** The same without an image; the numbers that wait are its own next day. */
    static final String UNKEPT = LIVED.replace("; keep()", "").replace("tell(82); tell(1681)", "tell(84); tell(1223)");
    /** A pot of which the last day has come. */
    static final String LAST_DAY = "33 x days(300); days(99)\n";

    private final Due due;
    private final String document;

    Edges(Due due) {
        this.due = due;
        try {
            document = Files.readString(Path.of("../shared/DOC.md"));
        } catch (IOException e) {
            throw new IllegalStateException(e);
        }
    }

    /** A run of calls for a sentence, or a part of one, that stands in the document word by word. */
    void of(String sentence, String run) {
        run("'" + sentence + "'", run);
        due.is("stands in the document", document.contains(sentence) ? 1 : 0, 1);
    }

    void run(String name, String run) {
        due.part(name);
        List<Step> steps = new ArrayList<>();
        for (String line : run.split("\n")) {
            addSteps(line, steps);
        }
        go(steps);
    }

    private void go(List<Step> steps) {
        OldPot x = new OldPot();
        for (int i = 0; i < steps.size(); i++) {
            Step step = steps.get(i);
            int got = step.on(x);
            if (step.isAsked()) {
                due.is("call " + (i + 1) + ", " + step, got, step.want());
            }
            if (mustChangeNothing(step, got)) {
                String heard = Whole.of(after(steps.subList(0, i + 1)));
                String unheard = Whole.of(after(without(steps, i)));
                due.is("call " + (i + 1) + ", " + step + ": what it changed" + changes(heard, unheard),
                        heard.equals(unheard) ? 0 : 1, 0);
            }
        }
    }

    private static boolean mustChangeNothing(Step step, int got) {
        if (step.name().equals("text")) {
            return got < 0;
        }
        return TELLS.contains(step.name()) || !step.name().equals("seed") && REFUSED.contains(got);
    }

    private static OldPot after(List<Step> steps) {
        OldPot x = new OldPot();
        for (Step step : steps) {
            step.on(x);
        }
        return x;
    }

    /** The steps ahead of step i; without what it uses up too, if it is a text or a check. */
    private static List<Step> without(List<Step> steps, int i) {
        List<Step> left = new ArrayList<>(steps.subList(0, i));
        String name = steps.get(i).name();
        Set<String> usedUp = name.equals("text") ? Set.of("feed", "trim", "tape")
                : name.equals("check") ? Set.of("tell") : Set.of();
        for (int k = i - 1; k >= 0 && !left.get(k).name().equals(name); k--) {
            if (usedUp.contains(left.get(k).name())) {
                left.remove(k);
            }
        }
        return left;
    }

    private static String changes(String heard, String unheard) {
        StringBuilder s = new StringBuilder();
        String[] a = heard.split("\n");
        String[] b = unheard.split("\n");
        for (int i = 0; i < a.length && i < b.length && s.length() < 200; i++) {
            if (!a[i].equals(b[i])) {
                s.append(" (").append(b[i]).append(": ").append(a[i]).append(")");
            }
        }
        return s.toString();
    }

    private static void addSteps(String line, List<Step> steps) {
        int from = 0;
        boolean quoted = false;
        for (int i = 0; i <= line.length(); i++) {
            if (i < line.length() && line.charAt(i) == '\'') {
                quoted = !quoted;
            }
            if (i == line.length() || line.charAt(i) == ';' && !quoted) {
                addStep(line.substring(from, i).strip(), steps);
                from = i + 1;
            }
        }
    }

    private static void addStep(String told, List<Step> steps) {
        if (told.isEmpty()) {
            return;
        }
        int arrow = told.lastIndexOf("=>");
        String want = arrow < 0 ? "" : told.substring(arrow + 2).strip();
        String call = (arrow < 0 ? told : told.substring(0, arrow)).strip();
        int times = 1;
        if (call.matches("\\d+ x .*")) {
            times = Integer.parseInt(call.substring(0, call.indexOf(' ')));
            call = call.substring(call.indexOf(" x ") + 3);
        }
        if (call.startsWith("text '")) {
            steps.add(Step.read(call.replaceFirst("text", "tape"), ""));
            call = "text()";
        }
        for (int i = 0; i < times; i++) {
            steps.add(Step.read(call, want));
        }
    }
}
