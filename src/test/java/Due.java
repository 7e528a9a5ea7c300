/** Counts the answers that are not as due; what every test of the project uses. */
final class Due {
    static final int BAD = -1000000001;
    static final int NO = -1000000002;
    static final int FULL = -1000000003;
    static final int NONE = -1000000005;
    static final int NOTHING = -1000000011;
    static final int KIND = -1000000012;
    static final int INDEX = -1000000013;
    static final int SIZE = -1000000014;

    private int asked = 0;
    private int wrong = 0;
    private String part = "";

    void part(String name) {
        part = name;
    }

    void is(String call, long got, long want) {
        asked++;
        if (got != want) {
            wrong++;
            if (wrong <= 50) {
                System.out.println(part + ": " + call + " answered " + got + ", due is " + want);
            }
        }
    }

    void end() {
        System.out.println(asked + " answers, " + wrong + " of them not as due");
        if (wrong != 0 || asked == 0) {
            System.exit(1);
        }
    }

    /** Feeds a text with as many blanks behind it as a feed needs, then cuts those off again. */
    static void feed(OldPot x, String text) {
        StringBuilder all = new StringBuilder(text);
        while (all.length() % 12 != 0) {
            all.append(' ');
        }
        int had = x.count(6);
        for (int at = 0; at < all.length(); at += 12) {
            x.feed(number(all, at), number(all, at + 4), number(all, at + 8));
        }
        x.trim(had + text.length());
    }

    static int text(OldPot x, String text) {
        feed(x, text);
        return x.text();
    }

    private static int number(CharSequence s, int at) {
        int v = 0;
        for (int i = at; i < at + 4; i++) {
            v = v << 8 | s.charAt(i) & 255;
        }
        return v;
    }
}
