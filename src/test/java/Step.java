import java.util.Arrays;

/** One call of a run: its name, its numbers or the text of a tape, and the answer that is due, if one is told. */
final class Step {
    private final String told;
    private final String name;
    private final String tape;
    private final Object[] numbers;
    private final String want;

    private Step(String told, String name, String tape, Object[] numbers, String want) {
        this.told = told;
        this.name = name;
        this.tape = tape;
        this.numbers = numbers;
        this.want = want;
    }

    /** A call as "name(1, 2)", or "tape 'text'", which comes by feed and trim. */
    static Step read(String call, String want) {
        if (call.startsWith("tape '")) {
            return new Step(call, "tape", call.substring(6, call.length() - 1), new Object[0], want);
        }
        int open = call.indexOf('(');
        String inner = call.substring(open + 1, call.lastIndexOf(')')).strip();
        String[] words = inner.isEmpty() ? new String[0] : inner.split(",");
        Object[] numbers = new Object[words.length];
        for (int i = 0; i < words.length; i++) {
            numbers[i] = number(words[i].strip());
        }
        return new Step(call, call.substring(0, open), "", numbers, want);
    }

    private static int number(String word) {
        return switch (word) {
            case "BAD" -> Due.BAD;
            case "NO" -> Due.NO;
            case "FULL" -> Due.FULL;
            case "NONE" -> Due.NONE;
            case "NOTHING" -> Due.NOTHING;
            case "KIND" -> Due.KIND;
            case "INDEX" -> Due.INDEX;
            case "SIZE" -> Due.SIZE;
            case "MIN" -> Integer.MIN_VALUE;
            case "MAX" -> Integer.MAX_VALUE;
            default -> Long.decode(word).intValue();
        };
    }

    String name() {
        return name;
    }

    boolean isAsked() {
        return !want.isEmpty();
    }

    /** A fault is told by its place. */
    int want() {
        return want.startsWith("fault ") ? -100 - Integer.parseInt(want.substring(6)) : number(want);
    }

    int on(OldPot x) {
        if (name.equals("tape")) {
            Due.feed(x, tape);
            return x.count(6);
        }
        Class<?>[] types = new Class<?>[numbers.length];
        Arrays.fill(types, int.class);
        try {
            return (Integer) OldPot.class.getMethod(name, types).invoke(x, numbers);
        } catch (ReflectiveOperationException e) {
            throw new IllegalStateException(told, e);
        }
    }

    @Override
    public String toString() {
        return told;
    }
}
