import java.lang.reflect.Method;
import java.lang.reflect.Modifier;
import java.util.ArrayList;
import java.util.Arrays;
import java.util.Comparator;
import java.util.List;
import java.util.Random;

/** Runs of calls by lot, on OldPot and on PlainPot: every answer is alike. The lots are the same each time. */
public final class ModelTest {
    private static final Due due = new Due();
    private static final int RUNS = Integer.getInteger("runs", 1500);
    /** An object is promised for so many calls. */
    private static final int MOST_CALLS = 512;
    private static final int[] ODD = {-1, 0, 1, 2, 3, 4, 5, 6, 7, 8, 9, 10, 20, 24, 25, 30, 31, 50, 60, 61, 100, 300, 301,
        999, 1000, 9999, 10000, 99999, 100000, -99999, -100000, 32767, 32768, 65536, Due.NONE, Due.BAD,
        Integer.MIN_VALUE, Integer.MAX_VALUE};

    private final Random lots;
    private final OldPot x = new OldPot();
    private final PlainPot y = new PlainPot();
    private final List<String> run = new ArrayList<>();
    private boolean wrong = false;

    private ModelTest(long seed) {
        lots = new Random(seed);
    }

    public static void main(String[] args) throws ReflectiveOperationException {
        List<Method> calls = new ArrayList<>();
        for (Method m : OldPot.class.getDeclaredMethods()) {
            if (Modifier.isPublic(m.getModifiers())) {
                calls.add(m);
            }
        }
        calls.sort(Comparator.comparing(Method::getName));
        due.is("how many methods", calls.size(), 40);
        for (int r = 0; r < RUNS; r++) {
            due.part("run " + r);
            new ModelTest(1000L + r).go(calls);
        }
        due.end();
    }

    private void go(List<Method> calls) throws ReflectiveOperationException {
        boolean longDays = lots.nextInt(10) == 0;
        for (int i = 0; i < 35 && longDays; i++) {
            ask("days", i < 33 ? 300 : lots.nextInt(60));
        }
        while (run.size() < MOST_CALLS && !wrong) {
            int which = lots.nextInt(60);
            if (which < 10) {
                tellText();
            } else if (which < 13) {
                tellDays();
            } else if (which < 15) {
                fillSheet();
            } else if (which < 18) {
                ask("set", lots.nextInt(8), 2 + lots.nextInt(2), lots.nextInt(lots.nextBoolean() ? 100000 : 300));
            } else {
                Method m = calls.get(lots.nextInt(calls.size()));
                boolean rare = m.getName().equals("steer") || m.getName().equals("leastPot") || m.getName().equals("thrown");
                if (!rare || lots.nextInt(3) == 0) {
                    int[] values = new int[m.getParameterCount()];
                    for (int k = 0; k < values.length; k++) {
                        values[k] = value(m.getName(), k);
                    }
                    ask(m.getName(), values);
                }
            }
        }
    }

    private int value(String call, int k) {
        int how = lots.nextInt(20);
        if (how == 0) {
            return ODD[lots.nextInt(ODD.length)];
        }
        if (how == 1) {
            return lots.nextInt();
        }
        boolean small = switch (call) {
            case "toss", "seed", "nearest", "tell" -> k == 0 && call.equals("toss");
            case "set", "mark", "lay" -> k < 2;
            case "pot" -> k == 0;
            case "days" -> false;
            case "behind" -> k != 1;
            case "steer" -> k == 2;
            case "leastPot" -> k == 0;
            case "trim" -> false;
            case "copy", "item" -> true;
            default -> true;
        };
        if (small) {
            return lots.nextInt(lots.nextInt(4) == 0 ? 10 : 4);
        }
        int[] most = {12, 40, 100, 310, 1010, 100010};
        return lots.nextInt(most[lots.nextInt(most.length)]);
    }

    private void ask(String call, int... values) throws ReflectiveOperationException {
        if (run.size() == MOST_CALLS) {
            return;
        }
        Class<?>[] types = new Class<?>[values.length];
        Arrays.fill(types, int.class);
        Object[] given = new Object[values.length];
        for (int i = 0; i < values.length; i++) {
            given[i] = values[i];
        }
        int got = (Integer) OldPot.class.getMethod(call, types).invoke(x, given);
        int want = (Integer) PlainPot.class.getDeclaredMethod(call, types).invoke(y, given);
        String told = call + Arrays.toString(values);
        run.add(told + " -> " + got);
        due.is(told, got, want);
        if (got != want && !wrong) {
            wrong = true;
            System.out.println("the whole run:\n" + String.join("\n", run));
        }
    }

    private void tellText() throws ReflectiveOperationException {
        int key = lots.nextInt(4) % 3;
        String text = List.of("fade ", "bill ", "lot ").get(key) + words(4, List.of("agt", "tw", "dt").get(key));
        StringBuilder s = new StringBuilder(text);
        if (lots.nextInt(3) == 0) {
            spoil(s);
        }
        if (s.length() > 96) {
            s.setLength(96);
        }
        int length = s.length();
        while (s.length() % 12 != 0) {
            s.append(' ');
        }
        ask("trim", 0);
        for (int i = 0; i < s.length(); i += 12) {
            int[] numbers = new int[3];
            for (int k = 0; k < 12; k++) {
                numbers[k / 4] = numbers[k / 4] << 8 | s.charAt(i + k);
            }
            ask("feed", numbers);
        }
        ask("trim", length);
        ask("text");
        ask("lot");
    }

    private void spoil(StringBuilder s) {
        String bytes = "()!&|<=>+-*/0123456789abcdefgtw A.\u00ff";
        for (int i = 0; i <= lots.nextInt(3); i++) {
            char c = bytes.charAt(lots.nextInt(bytes.length()));
            int at = lots.nextInt(s.length() + 1);
            if (lots.nextInt(3) == 0 || at == s.length()) {
                s.insert(at, c);
            } else if (lots.nextBoolean()) {
                s.setCharAt(at, c);
            } else {
                s.deleteCharAt(at);
            }
        }
    }

    private String words(int depth, String names) {
        String blank = lots.nextInt(4) == 0 ? " " : "";
        int how = depth == 0 ? lots.nextInt(4) : lots.nextInt(14);
        if (how < 2) {
            return "" + names.charAt(lots.nextInt(names.length()));
        }
        if (how < 4) {
            return "" + lots.nextInt(lots.nextInt(4) == 0 ? 12000 : 40);
        }
        if (how == 4) {
            return "!" + blank + words(depth - 1, names);
        }
        if (how < 8) {
            return "(" + blank + words(depth - 1, names) + blank + ")";
        }
        char sign = "|&<=>+-*/+-*".charAt(lots.nextInt(12));
        return words(depth - 1, names) + blank + sign + blank + words(depth - 1, names);
    }

    /** The days told by an image, mostly right. */
    private void tellDays() throws ReflectiveOperationException {
        if (lots.nextInt(3) == 0) {
            ask("keep");
        }
        int n = 1 + lots.nextInt(lots.nextInt(5) == 0 ? 30 : 5);
        ask("check", 0);
        PlainPot then = y;
        int things = then.count(0);
        if (things > 0) {
            for (int i = 1; i <= n; i++) {
                int sum = 0;
                for (int k = 0; k < things; k++) {
                    sum += then.behind(k, i, 0);
                }
                ask("tell", then.behind(0, i, 2) + (lots.nextInt(20) == 0 ? 1 : 0));
                if (lots.nextInt(30) != 0) {
                    ask("tell", sum);
                }
            }
        }
        ask("check", n + (lots.nextInt(10) == 0 ? 1 : 0));
    }

    /** A sheet that is mostly what the pot will taste of. */
    private void fillSheet() throws ReflectiveOperationException {
        int sheet = lots.nextInt(4);
        int size = lots.nextInt(25);
        int sort = lots.nextInt(2);
        ask("sheet", sheet, sort, size);
        for (int k = 0; k < size; k++) {
            int v = y.count(0) > 0 ? y.behind(0, k, 2) : 0;
            if (lots.nextInt(12) == 0) {
                v = sort == 1 && lots.nextBoolean() ? Due.NONE : v + lots.nextInt(1000) - 500;
            }
            ask("mark", sheet, k, v);
        }
        ask("reads", sheet);
        ask("thrown", sheet, 0);
        ask("thrown", sheet, 1);
    }
}
