/** Promises 23 to 27: the tape and its texts. */
public final class TextTest {
    private static final Due due = new Due();

    public static void main(String[] args) {
        feed();
        trim();
        textNumbers();
        goodTexts();
        names();
        faults();
        nesting();
        longTexts();
        full();
        textTold();
        why();
        due.end();
    }

    private static void feed() {
        due.part("promise 23");
        OldPot x = new OldPot();
        for (int i = 1; i <= 8; i++) {
            due.is("feed", x.feed(0x20202020, 0x20202020, 0x20202020), 12 * i);
        }
        due.is("the ninth", x.feed(1, 2, 3), Due.FULL);
        due.is("count(6)", x.count(6), 96);
        x.trim(85);
        due.is("85 bytes", x.feed(1, 2, 3), Due.FULL);
        x.trim(84);
        due.is("84 bytes", x.feed(0x20202020, 0x20202020, 0x20202020), 96);
        due.is("blanks alone", x.text(), -196);
        due.is("used up", x.count(6), 0);
        due.is("the highest first", x.feed(0x6c6f7420, 0x31203220, 0x33203420), 12);
        due.is("lot 1 2 3 4", x.text(), -106);
        x.feed(0x66616465, 0x20673132, 0xff808182);
        x.trim(9);
        due.is("fade g12 and a byte above 127", x.text(), -106);
        x.feed(0x66616465, 0x20673132, 0x2b676767);
        x.trim(5);
        x.feed(0x672b6720, 0x20202020, 0x20202020);
        due.is("what was trimmed is written over", x.text(), 0);
        due.is("its leaves", x.textTold(0, 1), 2);
    }

    private static void trim() {
        due.part("promise 24");
        OldPot x = new OldPot();
        due.is("trim(0)", x.trim(0), 0);
        due.is("trim(1)", x.trim(1), Due.BAD);
        due.is("trim(-1)", x.trim(-1), Due.BAD);
        x.feed(0x6c6f7420, 0x64206420, 0x20202020);
        due.is("trim(13)", x.trim(13), Due.BAD);
        due.is("count(6)", x.count(6), 12);
        due.is("trim(12)", x.trim(12), 12);
        due.is("trim(6)", x.trim(6), 6);
        due.is("trim(7)", x.trim(7), Due.BAD);
        due.is("count(6)", x.count(6), 6);
        due.is("lot d", x.text(), 0);
        due.is("trim(0)", x.trim(0), 0);
        x.feed(0x6c6f7420, 0x64646464, 0x64646464);
        x.trim(5);
        due.is("lot d, cut off from more letters", x.text(), 1);
        x.feed(0x6c6f7420, 0x31323334, 0x35363738);
        x.trim(7);
        due.is("lot 123, cut off from more digits", x.text(), 2);
        due.is("lot()", x.lot(), 123);
    }

    private static void textNumbers() {
        due.part("promise 25");
        OldPot x = new OldPot();
        due.is("an empty tape", x.text(), -100);
        due.is("first", Due.text(x, "lot 1"), 0);
        due.is("used up", x.count(6), 0);
        due.is("fault", Due.text(x, "lot"), -103);
        due.is("used up", x.count(6), 0);
        due.is("count(4)", x.count(4), 1);
        due.is("second", Due.text(x, "fade 1"), 1);
        due.is("count(4)", x.count(4), 2);
    }

    /** What lot gives by a text, in a pot with THE DAY 7 and TASTE 40. */
    private static void gives(String text, int want) {
        OldPot x = new OldPot();
        x.thing(0, 4);
        x.toss(0, 1000);
        x.pot(1, 0);
        x.days(7);
        due.is("'lot " + text + "' is read", Due.text(x, "lot " + text), 0);
        due.is("'lot " + text + "'", x.lot(), want);
    }

    private static void goodTexts() {
        due.part("promise 25, what texts give");
        gives("d", 7);
        gives("t", 40);
        gives("0", 0);
        gives("9999", 9999);
        gives("0012", 12);
        gives("1 + 2 * 3", 7);
        gives("2 * 3 + 1", 7);
        gives("(1 + 2) * 3", 9);
        gives("9 - 4 - 3", 2);
        gives("9 - (4 - 3)", 8);
        gives("100 / 7 / 2", 7);
        gives("100 / (7 / 2)", 33);
        gives("100 / 7 * 7", 98);
        gives("7 / 0", 0);
        gives("7 / (1 - 1) + 3", 3);
        gives("(0 - 7) / 2", -3);
        gives("(2 - 9) / (0 - 2)", 3);
        gives("9999 * 9999 * 9999", 9999 * 9999 * 9999);
        gives("(0 - 8192 * 4096 * 64) / (0 - 1)", Integer.MIN_VALUE);
        gives("1 < 2", 1);
        gives("2 < 2", 0);
        gives("3 > 2", 1);
        gives("2 > 2", 0);
        gives("2 = 2", 1);
        gives("2 = 3", 0);
        gives("1 + 1 = 2", 1);
        gives("1 = 2 - 1", 1);
        gives("(1 < 2) + (3 > 2)", 2);
        gives("5 & 3", 1);
        gives("5 & 0", 0);
        gives("0 & 5", 0);
        gives("0 | 0", 0);
        gives("0 | 6", 1);
        gives("6 | 0", 1);
        gives("1 | 1 & 0", 1);
        gives("(1 | 1) & 0", 0);
        gives("0 & 1 | 1", 1);
        gives("0 & (1 | 1)", 0);
        gives("1 & 2 < 1", 0);
        gives("1 | 2 > 3", 1);
        gives("2 > 1 & 3 > 2", 1);
        gives("0 | 0 | 3", 1);
        gives("1 & 1 & 3", 1);
        gives("!0", 1);
        gives("!5", 0);
        gives("!!5", 1);
        gives("!d + 3", 3);
        gives("!(d - 7) + 3", 4);
        gives("!0 * 5", 5);
        gives("3 * !0", 3);
        gives("! ( d = 7 ) | t = 40", 1);
        gives("d*d-t/d", 44);
        gives("   d   *   d   ", 49);
        gives("(((d)))", 7);
        due.is("blanks ahead", Due.text(new OldPot(), "  lot  d  "), 0);
        due.is("no blank at a sign", Due.text(new OldPot(), "lot(d)"), 0);
        due.is("no blank at a sign", Due.text(new OldPot(), "lot!d"), 0);
    }

    private static void names() {
        due.part("promise 25, names");
        String[] keys = {"fade", "bill", "lot"};
        String[] names = {"agt", "tw", "dt"};
        for (int key = 0; key < 3; key++) {
            for (char c = 'a'; c <= 'z'; c++) {
                boolean good = names[key].indexOf(c) >= 0;
                String text = keys[key] + " 1+" + c;
                due.is(text, Due.text(new OldPot(), text), good ? 0 : -100 - text.length() + 1);
            }
        }
        OldPot x = new OldPot();
        x.thing(2, 9);
        x.set(0, 2, 7000);
        x.set(0, 3, 13);
        Due.text(x, "fade a / 100");
        due.is("a", x.told(0, 4), 630 - 70);
        Due.text(x, "fade g");
        due.is("g", x.told(0, 4), 630 - 13);
        Due.text(x, "fade t / 9");
        due.is("t", x.told(0, 4), 630 - 70);
        due.is("bill without a text", x.told(0, 8), 560);
        Due.text(x, "bill t");
        due.is("t", x.told(0, 8), 560);
        Due.text(x, "bill w");
        due.is("w", x.told(0, 8), 31);
        x.turns(0, 4);
        due.is("t of fade, of a leaf", x.told(0, 4), 280);
        Due.text(x, "bill t*100+w");
        due.is("t of bill, of a leaf", x.told(0, 8), 28028);
    }

    private static void faults() {
        due.part("promise 25, faults");
        String[] texts = {
            "", "@0", " ", "@1", "     ", "@5", "fad 1", "@0", "fades 1", "@0", "Fade 1", "@0", "5", "@0", "(1)", "@0",
            "lota", "@0", " xot 1", "@1", "t", "@0", "lot", "@3", "lot ", "@4", "lot   ", "@6", "fade5", "@4", "lot5", "@3",
            "lot 5", "ok", "lot 12345", "@4", "lot 1+12345+", "@6", "lot 5d", "@5", "lot d5", "@5", "lot 5 d", "@6",
            "lot dd", "@4", "lot d d", "@6", "lot +1", "@4", "lot 1+", "@6", "lot 1+ ", "@7", "lot 1++1", "@6",
            "lot 1 2", "@6", "lot -1", "@4", "lot ()", "@5", "lot (1", "@6", "lot (1 ", "@7", "lot 1)", "@5",
            "lot (1))", "@7", "lot (1)(2)", "@7", "lot (1)2", "@7", "lot 1<2<3", "@7", "lot 1<2=3", "@7", "lot 1=2>3", "@7",
            "lot (1<2)<3", "ok", "lot 1<(2<3)", "ok", "lot 1<=2", "@6", "lot 1!2", "@5", "lot 1!=2", "@5", "lot !", "@5",
            "lot !!", "@6", "lot !)", "@5", "lot &1", "@4", "lot 1&&1", "@6", "lot 1||1", "@6", "lot 1|", "@6", "lot 1;", "@5",
            "lot D", "@4", "lot d\t", "@5", "lot\td", "@3", "lot d.", "@5", "lot d\0", "@5", "\0lot d", "@0",
            "lot fade", "@4", "lot lot", "@4", "fade fade a", "@5", "lot 1 + lot", "@8", "fade(a", "@6",
            "bill(t)w", "@7", "bill t w", "@7", "bill 1*", "@7", "bill 1/", "@7", "bill */", "@5", "lot 1{", "@5", "lot `", "@4",
            "lot /", "@4", "lot :", "@4", "lot 1 00000", "@6", "fade 00001", "@5", "fade12345", "@4", "lot (1 2)", "@7",
            "lot (1;", "@6", "lot (1 < 2 < 3)", "@11", "lot 1 & (2 | 3", "@14", "lot \u00e9", "@4", "\u00e9", "@0",
        };
        for (int i = 0; i < texts.length; i += 2) {
            int want = texts[i + 1].equals("ok") ? 0 : -100 - Integer.parseInt(texts[i + 1].substring(1));
            due.is("'" + texts[i] + "'", Due.text(new OldPot(), texts[i]), want);
        }
        OldPot x = new OldPot();
        for (int b = 0; b < 256; b++) {
            if (" &*+-/<=>|".indexOf((char) b) < 0) {
                due.is("lot d and byte " + b, Due.text(x, "lot d" + (char) b + "d"), b >= 'a' && b <= 'z' ? -104 : -105);
            }
        }
        due.is("count(4)", x.count(4), 0);
    }

    private static void nesting() {
        due.part("promise 25, what is open within others");
        String open8 = "((((((((";
        String shut8 = "))))))))";
        String nots8 = "!!!!!!!!";
        due.is("eight (", Due.text(new OldPot(), "lot " + open8 + "d" + shut8), 0);
        due.is("nine (", Due.text(new OldPot(), "lot " + open8 + "(d)" + shut8), -112);
        due.is("nine ( and no end", Due.text(new OldPot(), "lot " + open8 + "("), -112);
        due.is("eight ( and no end", Due.text(new OldPot(), "lot " + open8), -112);
        due.is("eight ( and eight more behind", Due.text(new OldPot(), "lot " + open8 + "d" + shut8 + "+" + open8 + "d" + shut8), 0);
        due.is("( within seven", Due.text(new OldPot(), "lot (((((((d)+(d)+((d)))))))))"), -100 - 29);
        due.is("( within seven, twice", Due.text(new OldPot(), "lot (((((((d+(d)+(d))))))))"), 0);
        due.is("( within seven, and one more", Due.text(new OldPot(), "lot (((((((d+(d)+((d)))))))))"), -100 - 18);
        due.is("eight !", Due.text(new OldPot(), "lot " + nots8 + "d"), 0);
        due.is("nine !", Due.text(new OldPot(), "lot " + nots8 + "!d"), -112);
        due.is("eight ! twice", Due.text(new OldPot(), "lot " + nots8 + "d-" + nots8 + "d"), 0);
        due.is("eight ! and nine", Due.text(new OldPot(), "lot " + nots8 + "d-" + nots8 + "!d"), -100 - 22);
        due.is("eight !( ", Due.text(new OldPot(), "lot !(!(!(!(!(!(!(!(d" + shut8), 0);
        due.is("eight !( and a !", Due.text(new OldPot(), "lot !(!(!(!(!(!(!(!(d+!d" + shut8), -100 - 22);
        due.is("eight !( and a (", Due.text(new OldPot(), "lot !(!(!(!(!(!(!(!(d+(d)" + shut8), -100 - 22);
        due.is("! is over behind its piece", Due.text(new OldPot(), "lot !(d)+!(d+!!!!!!!d)"), 0);
        due.is("! is open within its piece", Due.text(new OldPot(), "lot !(d)+!(d+!!!!!!!!d)"), -100 - 20);
    }

    private static void longTexts() {
        due.part("promise 25, long texts");
        StringBuilder sum = new StringBuilder("lot 1");
        while (sum.length() < 95) {
            sum.append("+1");
        }
        OldPot x = new OldPot();
        due.is("a sum of 95 bytes", Due.text(x, sum.toString()), 0);
        due.is("what it gives", x.lot(), 46);
        due.is("its numbers", x.textTold(0, 1), 46);
        due.is("96 bytes that end too soon", Due.text(x, sum + "+"), -196);
        due.is("96 bytes that end with a blank", Due.text(x, sum + " "), 1);
        due.is("96 bytes that end with a digit", Due.text(new OldPot(), " " + sum), 0);
        due.is("96 bytes that end with a letter", Due.text(new OldPot(), " " + sum.substring(0, 94) + "t"), 0);
        String deep = "lot 1|1&1<1+1*(1|1&1<1+1*(1|1&1<1+1*(1|1&1<1+1*(1|1&1<1+1*(1|1&1<1+1*(1|1&1<1+1*(1|0))))))))";
        due.is("one ) too many", Due.text(x, deep), -191);
        due.is("the deepest", Due.text(x, deep.substring(0, deep.length() - 1)), 2);
        due.is("what it gives", x.lot(), 1);
        due.is("its numbers", x.textTold(2, 1), 37);
    }

    private static void full() {
        due.part("promise 25, full");
        OldPot x = new OldPot();
        for (int i = 0; i < 14; i++) {
            due.is("text " + i, Due.text(x, "lot " + i), i);
            due.is("lot()", x.lot(), i);
        }
        due.is("the fifteenth", Due.text(x, "lot 77"), Due.FULL);
        due.is("used up", x.count(6), 0);
        due.is("a fault first", Due.text(x, "lot 77 7"), -107);
        due.is("used up", x.count(6), 0);
        due.is("lot()", x.lot(), 13);
        due.is("count(4)", x.count(4), 14);
        due.is("why(2)", x.why(2), 13);
    }

    private static void textTold() {
        due.part("promise 26");
        OldPot x = new OldPot();
        due.is("textTold(0, 0)", x.textTold(0, 0), Due.BAD);
        Due.text(x, "bill t");
        Due.text(x, "fade (a + 1) * !g - t / 30");
        Due.text(x, "lot 4");
        int[] keys = {1, 0, 2};
        int[] leaves = {1, 5, 1};
        for (int i = 0; i < 3; i++) {
            due.is("key of " + i, x.textTold(i, 0), keys[i]);
            due.is("leaves of " + i, x.textTold(i, 1), leaves[i]);
        }
        int[][] bad = {{-1, 0}, {3, 0}, {14, 0}, {0, -1}, {0, 2}};
        for (int[] b : bad) {
            due.is("textTold(" + b[0] + ", " + b[1] + ")", x.textTold(b[0], b[1]), Due.BAD);
        }
    }

    private static void why() {
        due.part("promise 27");
        OldPot x = new OldPot();
        due.is("why(-1)", x.why(-1), Due.BAD);
        due.is("why(3)", x.why(3), Due.BAD);
        for (int key = 0; key < 3; key++) {
            due.is("why(" + key + ")", x.why(key), Due.NONE);
        }
        Due.text(x, "bill 1");
        due.is("the first text", x.why(1), 0);
        Due.text(x, "lot 1");
        Due.text(x, "bill 2");
        Due.text(x, "bill 2 2");
        due.is("why(0)", x.why(0), Due.NONE);
        due.is("why(1)", x.why(1), 2);
        due.is("why(2)", x.why(2), 1);
        x.keep();
        Due.text(x, "lot 3");
        Due.text(x, "fade 3");
        due.is("why(2)", x.why(2), 3);
        x.back();
        due.is("why(0)", x.why(0), Due.NONE);
        due.is("why(2)", x.why(2), 1);
        due.is("lot()", x.lot(), 1);
        due.is("textTold(3, 0)", x.textTold(3, 0), Due.BAD);
        due.is("a new text", Due.text(x, "lot 5"), 3);
        due.is("lot()", x.lot(), 5);
        x.back();
        due.is("lot()", x.lot(), 1);
    }
}
