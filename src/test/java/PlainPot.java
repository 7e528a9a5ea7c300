import java.util.ArrayList;
import java.util.Arrays;
import java.util.HashMap;
import java.util.List;
import java.util.Map;
import java.util.function.IntUnaryOperator;
import java.util.function.ToIntFunction;

/**
 * The document once more, as plainly as the whole Java library allows: a class a kind, a tree a text, every thought on a
 * copy of its own. ModelTest holds OldPot against it; it shares no code with it.
 */
final class PlainPot {
    /** A refusal, with what the call answers. */
    static final class Refused extends RuntimeException {
        private static final long serialVersionUID = 1L;
        final int answer;

        Refused(int answer) {
            super(null, null, false, false);
            this.answer = answer;
        }
    }

    private static void need(boolean good, int otherwise) {
        if (!good) {
            throw new Refused(otherwise);
        }
    }

    private static void range(long v, long least, long most) {
        need(v >= least && v <= most, Due.BAD);
    }

    // ---- things, a class a kind

    static class Thing implements Cloneable {
        int strong;
        int amount;
        int age;

        int kind() {
            return 0;
        }

        int taste(Pot pot) {
            return (int) ((long) amount * strong / 100);
        }

        final int asThing() {
            return (int) ((long) amount * strong / 100);
        }

        int wears() {
            return 0;
        }

        int worth() {
            return strong;
        }

        @Override
        protected Thing clone() {
            try {
                return (Thing) super.clone();
            } catch (CloneNotSupportedException e) {
                throw new IllegalStateException(e);
            }
        }
    }

    static class Bone extends Thing {
        @Override
        int kind() {
            return 1;
        }

        @Override
        int taste(Pot pot) {
            int more = age > 30 ? 30 : age;
            return amount == 0 ? 0 : super.taste(pot) + more;
        }

        @Override
        int wears() {
            return amount / 100;
        }

        @Override
        int worth() {
            return super.worth() + 9;
        }
    }

    static class Herb extends Thing {
        @Override
        int kind() {
            return 2;
        }

        @Override
        int taste(Pot pot) {
            long whole = super.taste(pot);
            long less = pot.law(0) == null ? 2L * age : pot.law(0).value(Map.of('a', amount, 'g', age, 't', asThing()));
            long left = whole - less;
            return (int) (left < 0 ? 0 : left > whole ? whole : left);
        }

        @Override
        int wears() {
            int w = amount / 20 + 1;
            return w > amount ? amount : w;
        }

        @Override
        int worth() {
            return 40 - super.worth();
        }
    }

    static class Marrow extends Bone {
        @Override
        int kind() {
            return 3;
        }

        @Override
        int taste(Pot pot) {
            return 2 * super.taste(pot);
        }

        @Override
        int worth() {
            return 2 * super.worth();
        }
    }

    static class Leaf extends Herb {
        @Override
        int kind() {
            return 4;
        }

        @Override
        int taste(Pot pot) {
            return super.taste(pot) / 2;
        }

        @Override
        int wears() {
            int w = 2 * super.wears();
            return w > amount ? amount : w;
        }

        @Override
        int worth() {
            return super.worth() - 3;
        }
    }

    static class Salt extends Thing {
        @Override
        int kind() {
            return 5;
        }

        @Override
        int taste(Pot pot) {
            return super.taste(pot) * 2;
        }

        @Override
        int worth() {
            return 60;
        }
    }

    private static final List<Class<? extends Thing>> CLASSES =
            List.of(Thing.class, Bone.class, Herb.class, Marrow.class, Leaf.class, Salt.class);

    private static Thing make(int kind, int strong, int amount, int age) {
        Thing t = switch (kind) {
            case 0 -> new Thing();
            case 1 -> new Bone();
            case 2 -> new Herb();
            case 3 -> new Marrow();
            case 4 -> new Leaf();
            case 5 -> new Salt();
            default -> throw new Refused(Due.BAD);
        };
        t.strong = strong;
        t.amount = amount;
        t.age = age;
        return t;
    }

    // ---- the pot

    static final class Pot {
        List<Thing> things = new ArrayList<>();
        int pot = 100;
        int bowls = 20;
        int day = 0;
        int taken = 0;
        int gone = 0;
        int z = 1;
        List<Text> texts = new ArrayList<>();

        Pot copied() {
            Pot p = new Pot();
            for (Thing t : things) {
                p.things.add(t.clone());
            }
            p.pot = pot;
            p.bowls = bowls;
            p.day = day;
            p.taken = taken;
            p.gone = gone;
            p.z = z;
            p.texts = new ArrayList<>(texts);
            return p;
        }

        Text law(int key) {
            for (int i = texts.size() - 1; i >= 0; i--) {
                if (texts.get(i).key == key) {
                    return texts.get(i);
                }
            }
            return null;
        }

        int taste() {
            return things.stream().mapToInt(t -> t.taste(this)).sum();
        }

        int amount() {
            return things.stream().mapToInt(t -> t.amount).sum();
        }

        void oneDay() {
            for (Thing t : things) {
                int takes = bowls >= pot ? t.amount : (int) ((long) t.amount * bowls / pot);
                t.amount -= takes;
                taken += takes;
            }
            for (Thing t : things) {
                int wears = t.wears();
                t.amount -= wears;
                gone += wears;
            }
            for (Thing t : things) {
                t.age = t.amount == 0 ? 0 : t.age == 9999 ? 9999 : t.age + 1;
            }
            day++;
        }

        Pot behind(int n) {
            Pot p = copied();
            for (int i = 0; i < n; i++) {
                p.oneDay();
            }
            return p;
        }

        Pot with(int thing, int more) {
            Pot p = copied();
            Thing t = p.things.get(thing);
            t.amount = Math.min(99999, t.amount + more);
            return p;
        }

        int draw() {
            z = z * 1103515245 + 12345;
            return z >>> 8;
        }
    }

    // ---- texts, as trees

    static final class Text {
        int key;
        int leaves;
        ToIntFunction<Map<Character, Integer>> tree;

        int value(Map<Character, Integer> names) {
            return tree.applyAsInt(names);
        }
    }

    record Token(String s, int at, boolean glued) { }

    static final class Fault extends RuntimeException {
        private static final long serialVersionUID = 1L;
        final int at;

        Fault(int at) {
            super(null, null, false, false);
            this.at = at;
        }
    }

    static final class Parser {
        private final List<Token> tokens = new ArrayList<>();
        private final Text text = new Text();
        private String names = "";
        private int at = 0;
        private int open = 0;
        private int nots = 0;

        Parser(String tape) {
            int i = 0;
            while (i < tape.length()) {
                char c = tape.charAt(i);
                if (c == ' ') {
                    i++;
                    continue;
                }
                int j = i + 1;
                String row = letter(c) ? "[a-z]*" : digit(c) ? "[0-9]*" : "";
                while (!row.isEmpty() && j < tape.length() && tape.substring(i, j + 1).matches(row)) {
                    j++;
                }
                boolean glued = i > 0 && (letter(c) || digit(c))
                        && (letter(tape.charAt(i - 1)) || digit(tape.charAt(i - 1)));
                tokens.add(new Token(tape.substring(i, j), i, glued));
                i = j;
            }
            tokens.add(new Token("", tape.length(), false));
        }

        private static boolean letter(char c) {
            return c >= 'a' && c <= 'z';
        }

        private static boolean digit(char c) {
            return c >= '0' && c <= '9';
        }

        private Token look() {
            return tokens.get(at);
        }

        private Fault fault() {
            return new Fault(look().at());
        }

        private boolean takes(String s) {
            if (look().s().equals(s) && !s.isEmpty()) {
                at++;
                return true;
            }
            return false;
        }

        Text parse() {
            text.key = List.of("fade", "bill", "lot").indexOf(look().s());
            if (text.key < 0) {
                throw fault();
            }
            names = List.of("agt", "tw", "dt").get(text.key);
            at++;
            text.tree = level(0);
            if (at != tokens.size() - 1) {
                throw fault();
            }
            return text;
        }

        private static final List<String> SIGNS = List.of("|", "&", "<=>", "+-", "*/");

        private ToIntFunction<Map<Character, Integer>> level(int level) {
            if (level == SIGNS.size()) {
                return piece();
            }
            ToIntFunction<Map<Character, Integer>> left = level(level + 1);
            boolean again = true;
            while (again && look().s().length() == 1 && SIGNS.get(level).contains(look().s())) {
                char sign = look().s().charAt(0);
                at++;
                ToIntFunction<Map<Character, Integer>> l = left;
                ToIntFunction<Map<Character, Integer>> r = level(level + 1);
                left = m -> both(sign, l.applyAsInt(m), r.applyAsInt(m));
                again = level != 2;
            }
            return left;
        }

        private static int both(char sign, int a, int b) {
            return switch (sign) {
                case '|' -> (a == 0 ? 0 : 1) | (b == 0 ? 0 : 1);
                case '&' -> (a == 0 ? 0 : 1) & (b == 0 ? 0 : 1);
                case '<' -> Integer.compare(a, b) < 0 ? 1 : 0;
                case '=' -> Integer.compare(a, b) == 0 ? 1 : 0;
                case '>' -> Integer.compare(a, b) > 0 ? 1 : 0;
                case '+' -> (int) ((long) a + b);
                case '-' -> (int) ((long) a - b);
                case '*' -> (int) ((long) a * b);
                default -> b == 0 ? 0 : (int) ((long) a / b);
            };
        }

        private ToIntFunction<Map<Character, Integer>> piece() {
            Token t = look();
            if (t.glued()) {
                throw fault();
            }
            if (t.s().matches("[0-9]{1,4}")) {
                at++;
                text.leaves++;
                int v = Integer.parseInt(t.s());
                return m -> v;
            }
            if (t.s().length() == 1 && names.contains(t.s())) {
                at++;
                text.leaves++;
                char c = t.s().charAt(0);
                return m -> m.get(c);
            }
            if (t.s().equals("!") && nots < 8) {
                at++;
                nots++;
                ToIntFunction<Map<Character, Integer>> p = piece();
                nots--;
                return m -> p.applyAsInt(m) == 0 ? 1 : 0;
            }
            if (t.s().equals("(") && open < 8) {
                at++;
                open++;
                ToIntFunction<Map<Character, Integer>> e = level(0);
                if (!takes(")")) {
                    throw fault();
                }
                open--;
                return e;
            }
            throw fault();
        }
    }

    // ---- the state

    private Pot now = new Pot();
    private Pot image = null;
    private final StringBuilder tape = new StringBuilder();
    /** short[] or Float[] (null is no number), or null: missing. */
    private final Object[] sheets = new Object[4];
    /** null, a Thing, a short[] or Float[], or an Integer. */
    private final Object[] slots = new Object[5];
    private final List<Integer> waiting = new ArrayList<>();

    private static int guarded(java.util.function.IntSupplier body) {
        try {
            return body.getAsInt();
        } catch (Refused r) {
            return r.answer;
        }
    }

    private Thing the(int thing) {
        range(thing, 0, now.things.size() - 1);
        return now.things.get(thing);
    }

    public int thing(int kind, int strong) {
        return guarded(() -> {
            range(kind, 0, 5);
            range(strong, 1, 9);
            need(now.things.size() < 8, Due.FULL);
            now.things.add(make(kind, strong, 0, 0));
            return now.things.size() - 1;
        });
    }

    public int toss(int thing, int amount) {
        return guarded(() -> {
            Thing t = the(thing);
            range(amount, 1, 9999);
            t.amount = Math.min(99999, t.amount + amount);
            return t.amount;
        });
    }

    public int told(int thing, int what) {
        return guarded(() -> {
            Thing t = the(thing);
            range(what, 0, 8);
            return switch (what) {
                case 0 -> t.kind();
                case 1 -> t.strong;
                case 2 -> t.amount;
                case 3 -> t.age;
                case 4 -> t.taste(now);
                case 5 -> t.wears();
                case 6 -> t.worth();
                case 7 -> now.amount() == 0 ? 0 : (int) (10000L * t.amount / now.amount());
                default -> now.law(1) == null ? t.taste(now)
                        : now.law(1).value(Map.of('t', t.taste(now), 'w', t.worth()));
            };
        });
    }

    public int as(int thing, int kind) {
        return guarded(() -> {
            Thing t = the(thing);
            range(kind, 0, 5);
            need(CLASSES.get(kind).isInstance(t), Due.KIND);
            return t.strong;
        });
    }

    public int turns(int thing, int kind) {
        return guarded(() -> {
            Thing t = the(thing);
            range(kind, 0, 5);
            now.things.set(thing, make(kind, t.strong, t.amount, t.age));
            return t.kind();
        });
    }

    public int set(int thing, int what, int v) {
        return guarded(() -> {
            Thing t = the(thing);
            range(what, 1, 3);
            range(v, what == 1 ? 1 : 0, what == 1 ? 9 : what == 2 ? 99999 : 9999);
            int was = told(thing, what);
            if (what == 1) {
                t.strong = v;
            } else if (what == 2) {
                t.amount = v;
            } else {
                t.age = v;
            }
            return was;
        });
    }

    public int deal(int n) {
        return guarded(() -> {
            range(n, 1, 8);
            int came = 0;
            while (came < n && now.things.size() < 8) {
                int kind = now.draw() % 6;
                int strong = now.draw() % 9 + 1;
                now.things.add(make(kind, strong, now.draw() % 1000, 0));
                came++;
            }
            return came;
        });
    }

    public int seed(int v) {
        int was = now.z;
        now.z = v;
        return was;
    }

    public int pot(int what, int v) {
        return guarded(() -> {
            range(what, 0, 1);
            range(v, 1 - what, 999);
            int was = what == 0 ? now.pot : now.bowls;
            if (what == 0) {
                now.pot = v;
            } else {
                now.bowls = v;
            }
            return was;
        });
    }

    public int days(int n) {
        return guarded(() -> {
            range(n, 1, 300);
            for (int i = 0; i < n && now.day < 9999; i++) {
                now.oneDay();
            }
            return now.taste();
        });
    }

    public int taste() {
        return now.taste();
    }

    public int grams(int what) {
        return what == 0 ? now.taken : what == 1 ? now.gone : what == 2 ? now.amount() : Due.BAD;
    }

    public int lot() {
        return now.law(2) == null ? 0 : now.law(2).value(Map.of('d', now.day, 't', now.taste()));
    }

    public int behind(int thing, int n, int what) {
        return guarded(() -> {
            the(thing);
            range(n, 0, 300);
            range(what, 0, 3);
            Pot p = now.behind(n);
            Thing t = p.things.get(thing);
            return new int[] {t.amount, t.taste(p), p.taste(), p.taken}[what];
        });
    }

    private static int first(int least, int most, java.util.function.IntPredicate is) {
        for (int i = least; i <= most; i++) {
            if (is.test(i)) {
                return i;
            }
        }
        return Due.NONE;
    }

    private static int smallest(int least, int most, IntUnaryOperator gap) {
        Map<Integer, Integer> gaps = new HashMap<>();
        int best = Integer.MAX_VALUE;
        for (int i = least; i <= most; i++) {
            gaps.put(i, gap.applyAsInt(i));
            best = Math.min(best, gaps.get(i));
        }
        int found = best;
        return first(least, most, i -> gaps.get(i) == found);
    }

    public int tasted(int thing) {
        return guarded(() -> {
            the(thing);
            Pot p = now.copied();
            return first(0, 300, n -> {
                if (n > 0) {
                    p.oneDay();
                }
                return p.things.get(thing).taste(p) == 0;
            });
        });
    }

    public int steer(int w, int n, int what) {
        return guarded(() -> {
            range(w, 0, 99999);
            range(n, 0, 30);
            range(what, 0, 2);
            need(!now.things.isEmpty(), Due.NONE);
            IntUnaryOperator taste = c -> now.with(c / 21, c % 21 * 50).behind(n).taste();
            int best = smallest(0, now.things.size() * 21 - 1, c -> Math.abs(taste.applyAsInt(c) - w));
            return new int[] {best / 21, best % 21 * 50, taste.applyAsInt(best)}[what];
        });
    }

    public int leastPot(int thing, int k, int n) {
        return guarded(() -> {
            the(thing);
            range(k, 0, 99999);
            range(n, 0, 60);
            int tens = first(1, 99, size -> {
                Pot p = now.copied();
                p.pot = size * 10;
                return p.behind(n).things.get(thing).amount >= k;
            });
            return tens == Due.NONE ? tens : tens * 10;
        });
    }

    public int nearest(int w) {
        return guarded(() -> {
            range(w, 0, 99999);
            Pot p = now.copied();
            return smallest(0, 100, n -> {
                if (n > 0) {
                    p.oneDay();
                }
                return Math.abs(p.taste() - w);
            });
        });
    }

    private Object the(Object[] row, int at) {
        range(at, 0, row.length - 1);
        return row[at];
    }

    private static int size(Object sheet) {
        return sheet instanceof short[] s ? s.length : ((Float[]) sheet).length;
    }

    /** A place, or null if it is no number. */
    private static Integer place(Object sheet, int k) {
        if (sheet instanceof short[] s) {
            return (int) s[k];
        }
        Float f = ((Float[]) sheet)[k];
        return f == null ? null : Integer.valueOf(Math.round(f));
    }

    public int thrown(int sheet, int what) {
        return guarded(() -> {
            Object s = the(sheets, sheet);
            range(what, 0, 1);
            need(s != null, Due.NOTHING);
            need(!now.things.isEmpty(), Due.NONE);
            IntUnaryOperator gap = thing -> {
                Pot p = now.with(thing, 500);
                int sum = 0;
                for (int k = 0; k < size(s); k++) {
                    sum += place(s, k) == null ? 0 : Math.abs(p.behind(k).taste() - place(s, k));
                }
                return sum;
            };
            int best = smallest(0, now.things.size() - 1, gap);
            return what == 0 ? best : gap.applyAsInt(best);
        });
    }

    public int halved() {
        Pot whole = now.copied();
        Pot half = now.copied();
        half.things.forEach(t -> t.amount = t.amount / 2);
        return first(0, 200, n -> {
            if (n > 0) {
                whole.oneDay();
                half.oneDay();
            }
            return whole.taste() == half.taste();
        });
    }

    public int differs() {
        return image == null ? Due.NO : now.taste() - image.taste();
    }

    public int feed(int a, int b, int c) {
        return guarded(() -> {
            need(tape.length() + 12 <= 96, Due.FULL);
            for (byte x : java.nio.ByteBuffer.allocate(12).putInt(a).putInt(b).putInt(c).array()) {
                tape.append((char) (x & 255));
            }
            return tape.length();
        });
    }

    public int trim(int n) {
        return guarded(() -> {
            range(n, 0, tape.length());
            tape.setLength(n);
            return n;
        });
    }

    public int text() {
        String s = tape.toString();
        tape.setLength(0);
        Text t;
        try {
            t = new Parser(s).parse();
        } catch (Fault f) {
            return -100 - f.at;
        }
        if (now.texts.size() == 14) {
            return Due.FULL;
        }
        now.texts.add(t);
        return now.texts.size() - 1;
    }

    public int textTold(int text, int what) {
        return guarded(() -> {
            range(text, 0, now.texts.size() - 1);
            range(what, 0, 1);
            return what == 0 ? now.texts.get(text).key : now.texts.get(text).leaves;
        });
    }

    public int why(int key) {
        return guarded(() -> {
            range(key, 0, 2);
            need(now.law(key) != null, Due.NONE);
            return now.texts.lastIndexOf(now.law(key));
        });
    }

    public int sheet(int sheet, int sort, int n) {
        return guarded(() -> {
            the(sheets, sheet);
            range(sort, -1, 1);
            if (sort == -1) {
                sheets[sheet] = null;
                return 0;
            }
            need(n <= 24, Due.BAD);
            need(n >= 0, Due.SIZE);
            Float[] floats = new Float[n];
            Arrays.fill(floats, 0f);
            sheets[sheet] = sort == 0 ? new short[n] : floats;
            return n;
        });
    }

    public int mark(int sheet, int place, int v) {
        return guarded(() -> {
            Object s = the(sheets, sheet);
            need(s != null, Due.NOTHING);
            need(place >= 0 && place < size(s), Due.INDEX);
            if (s instanceof short[] shorts) {
                need(v != Due.NONE, Due.KIND);
                shorts[place] = (short) v;
            } else if (v == Due.NONE) {
                ((Float[]) s)[place] = null;
            } else {
                range(v, -99999, 99999);
                ((Float[]) s)[place] = (float) v;
            }
            return 1;
        });
    }

    public int pour(int sheet) {
        return guarded(() -> {
            Object s = the(sheets, sheet);
            need(s != null, Due.NOTHING);
            int otherwise = 0;
            for (int i = 0; i < now.things.size(); i++) {
                if (i < size(s) && place(s, i) != null) {
                    int was = now.things.get(i).amount;
                    now.things.get(i).amount = Math.min(99999, Math.max(0, place(s, i)));
                    otherwise += was != now.things.get(i).amount ? 1 : 0;
                }
            }
            return otherwise;
        });
    }

    public int reads(int sheet) {
        return guarded(() -> {
            Object s = the(sheets, sheet);
            need(s != null, Due.NOTHING);
            return first(0, size(s) - 1, k -> place(s, k) != null && place(s, k) != now.behind(k).taste());
        });
    }

    public int copy(int from, int place, int to, int at, int many) {
        return guarded(() -> {
            Object a = the(sheets, from);
            Object b = the(sheets, to);
            need(a != null && b != null, Due.NOTHING);
            need(a.getClass() == b.getClass(), Due.KIND);
            try {
                System.arraycopy(a, place, b, at, many);
            } catch (IndexOutOfBoundsException e) {
                return Due.INDEX;
            }
            return many;
        });
    }

    public int lay(int slot, int thing, int k) {
        return guarded(() -> {
            Object was = the(slots, slot);
            range(thing, 0, 3);
            Object it = null;
            if (thing == 1) {
                it = the(k).clone();
            } else if (thing == 2) {
                Object s = the(sheets, k);
                need(s != null, Due.NOTHING);
                it = s instanceof short[] shorts ? shorts.clone() : ((Float[]) s).clone();
            } else if (thing == 3) {
                it = k;
            }
            slots[slot] = it;
            return was == null ? 0 : was instanceof Thing ? 1 : was instanceof Integer ? 3 : 2;
        });
    }

    public int ask(int slot, int kind) {
        return guarded(() -> {
            Object it = the(slots, slot);
            range(kind, 0, 5);
            need(it != null, Due.NOTHING);
            need(CLASSES.get(kind).isInstance(it), Due.KIND);
            return ((Thing) it).worth();
        });
    }

    public int item(int slot, int place) {
        return guarded(() -> {
            Object it = the(slots, slot);
            need(it != null, Due.NOTHING);
            need(!(it instanceof Thing) && !(it instanceof Integer), Due.KIND);
            need(place >= 0 && place < size(it), Due.INDEX);
            need(place(it, place) != null, Due.KIND);
            return place(it, place);
        });
    }

    public int rest(int slot, int n) {
        return guarded(() -> {
            Object it = the(slots, slot);
            need(it != null, Due.NOTHING);
            need(it instanceof Integer, Due.KIND);
            need(n != 0, Due.NO);
            return (int) (((Integer) it).longValue() % n);
        });
    }

    public int tell(int v) {
        if (waiting.size() == 60) {
            return Due.FULL;
        }
        waiting.add(v);
        return waiting.size();
    }

    public int check(int n) {
        List<Integer> said = new ArrayList<>(waiting);
        waiting.clear();
        return guarded(() -> {
            range(n, 1, 30);
            need(image != null, Due.NO);
            List<Integer> due = new ArrayList<>();
            Pot p = image.copied();
            for (int i = 0; i < n && p.day < 9999; i++) {
                p.oneDay();
                due.add(p.taste());
                due.add(p.amount());
            }
            if (said.equals(due)) {
                return 0;
            }
            int right = 0;
            while (right < said.size() && right < due.size() && said.get(right).equals(due.get(right))) {
                right++;
            }
            return 1 + right;
        });
    }

    public int keep() {
        image = now.copied();
        return now.things.size();
    }

    public int back() {
        if (image == null) {
            return Due.NO;
        }
        now = image.copied();
        return now.things.size();
    }

    public int count(int what) {
        return switch (what) {
            case 0 -> now.things.size();
            case 1 -> now.day;
            case 2 -> now.pot;
            case 3 -> now.bowls;
            case 4 -> now.texts.size();
            case 5 -> waiting.size();
            case 6 -> tape.length();
            case 7 -> now.z;
            default -> Due.BAD;
        };
    }
}
