/** Promises 1 to 9: a new object, and its things. */
public final class ThingsTest {
    private static final Due due = new Due();

    public static void main(String[] args) {
        newObject();
        thing();
        toss();
        toldPlain();
        toldTaste();
        toldWears();
        toldWorth();
        toldShareAndBill();
        as();
        turns();
        set();
        deal();
        seed();
        due.end();
    }

    private static void newObject() {
        due.part("promise 1");
        OldPot x = new OldPot();
        int[] counts = {0, 0, 100, 20, 0, 0, 0, 1};
        for (int i = 0; i < counts.length; i++) {
            due.is("count(" + i + ")", x.count(i), counts[i]);
        }
        due.is("taste()", x.taste(), 0);
        due.is("grams(0)", x.grams(0), 0);
        due.is("grams(1)", x.grams(1), 0);
        due.is("grams(2)", x.grams(2), 0);
        due.is("lot()", x.lot(), 0);
        due.is("why(0)", x.why(0), Due.NONE);
        due.is("differs()", x.differs(), Due.NO);
        due.is("back()", x.back(), Due.NO);
        for (int i = 0; i < 4; i++) {
            due.is("reads(" + i + ")", x.reads(i), Due.NOTHING);
        }
        for (int i = 0; i < 5; i++) {
            due.is("rest(" + i + ", 1)", x.rest(i, 1), Due.NOTHING);
        }
        due.is("told(0, 0)", x.told(0, 0), Due.BAD);
        x.thing(0, 1);
        OldPot y = new OldPot();
        due.is("another one's count(0)", y.count(0), 0);
        due.is("BAD", OldPot.BAD, Due.BAD);
        due.is("NO", OldPot.NO, Due.NO);
        due.is("FULL", OldPot.FULL, Due.FULL);
        due.is("NONE", OldPot.NONE, Due.NONE);
        due.is("NOTHING", OldPot.NOTHING, Due.NOTHING);
        due.is("KIND", OldPot.KIND, Due.KIND);
        due.is("INDEX", OldPot.INDEX, Due.INDEX);
        due.is("SIZE", OldPot.SIZE, Due.SIZE);
    }

    private static void thing() {
        due.part("promise 2");
        OldPot x = new OldPot();
        due.is("thing(-1, 1)", x.thing(-1, 1), Due.BAD);
        due.is("thing(6, 1)", x.thing(6, 1), Due.BAD);
        due.is("thing(0, 0)", x.thing(0, 0), Due.BAD);
        due.is("thing(0, 10)", x.thing(0, 10), Due.BAD);
        due.is("count(0)", x.count(0), 0);
        for (int i = 0; i < 8; i++) {
            due.is("thing " + i, x.thing(i % 6, i + 1), i);
            due.is("kind of " + i, x.told(i, 0), i % 6);
            due.is("strong of " + i, x.told(i, 1), i + 1);
            due.is("amount of " + i, x.told(i, 2), 0);
            due.is("age of " + i, x.told(i, 3), 0);
        }
        due.is("the ninth", x.thing(5, 9), Due.FULL);
        due.is("the ninth, of no kind", x.thing(6, 9), Due.BAD);
        due.is("the ninth, too strong", x.thing(5, 10), Due.BAD);
        due.is("count(0)", x.count(0), 8);
    }

    private static void toss() {
        due.part("promise 3");
        OldPot x = new OldPot();
        due.is("toss(0, 1)", x.toss(0, 1), Due.BAD);
        x.thing(0, 5);
        due.is("toss(-1, 1)", x.toss(-1, 1), Due.BAD);
        due.is("toss(1, 1)", x.toss(1, 1), Due.BAD);
        due.is("toss(0, 0)", x.toss(0, 0), Due.BAD);
        due.is("toss(0, -5)", x.toss(0, -5), Due.BAD);
        due.is("toss(0, 10000)", x.toss(0, 10000), Due.BAD);
        due.is("told(0, 2)", x.told(0, 2), 0);
        due.is("toss(0, 1)", x.toss(0, 1), 1);
        due.is("toss(0, 9999)", x.toss(0, 9999), 10000);
        for (int i = 2; i <= 9; i++) {
            due.is("toss(0, 9999)", x.toss(0, 9999), 1 + 9999 * i);
        }
        due.is("toss(0, 9999)", x.toss(0, 9999), 99991);
        due.is("toss(0, 9)", x.toss(0, 9), 99999);
        due.is("toss(0, 1)", x.toss(0, 1), 99999);
        due.is("told(0, 2)", x.told(0, 2), 99999);
        x.set(0, 3, 7);
        x.set(0, 2, 0);
        due.is("toss(0, 3)", x.toss(0, 3), 3);
        due.is("age stays", x.told(0, 3), 7);
    }

    private static void toldPlain() {
        due.part("promise 4, plain");
        OldPot x = new OldPot();
        x.thing(4, 7);
        x.toss(0, 1234);
        x.set(0, 3, 5);
        due.is("told(0, 0)", x.told(0, 0), 4);
        due.is("told(0, 1)", x.told(0, 1), 7);
        due.is("told(0, 2)", x.told(0, 2), 1234);
        due.is("told(0, 3)", x.told(0, 3), 5);
        due.is("told(0, -1)", x.told(0, -1), Due.BAD);
        due.is("told(0, 9)", x.told(0, 9), Due.BAD);
        due.is("told(1, 0)", x.told(1, 0), Due.BAD);
        due.is("told(-1, 0)", x.told(-1, 0), Due.BAD);
        due.is("told(8, 0)", x.told(8, 0), Due.BAD);
    }

    /** A thing of a kind with strong, amount and age. */
    private static OldPot one(int kind, int strong, int amount, int age) {
        OldPot x = new OldPot();
        x.thing(kind, strong);
        x.set(0, 2, amount);
        x.set(0, 3, age);
        return x;
    }

    private static void tastes(int kind, int strong, int amount, int age, int want) {
        String call = "taste of kind " + kind + ", " + strong + ", " + amount + ", " + age;
        due.is(call, one(kind, strong, amount, age).told(0, 4), want);
    }

    private static void toldTaste() {
        due.part("promise 4, taste");
        tastes(0, 5, 1019, 40, 50);
        tastes(0, 9, 99999, 0, 8999);
        tastes(0, 9, 11, 0, 0);
        tastes(0, 9, 12, 0, 1);
        tastes(1, 4, 524, 0, 20);
        tastes(1, 4, 524, 29, 49);
        tastes(1, 4, 524, 30, 50);
        tastes(1, 4, 524, 31, 50);
        tastes(1, 4, 1, 12, 12);
        tastes(1, 4, 0, 12, 0);
        tastes(2, 9, 700, 0, 63);
        tastes(2, 9, 700, 10, 43);
        tastes(2, 9, 700, 31, 1);
        tastes(2, 9, 700, 32, 0);
        tastes(2, 9, 700, 9999, 0);
        tastes(2, 9, 0, 3, 0);
        tastes(3, 2, 349, 0, 12);
        tastes(3, 2, 349, 7, 26);
        tastes(3, 2, 349, 99, 72);
        tastes(3, 2, 0, 99, 0);
        tastes(4, 9, 700, 0, 31);
        tastes(4, 9, 700, 10, 21);
        tastes(4, 9, 700, 40, 0);
        tastes(5, 3, 299, 50, 16);
        tastes(5, 9, 99999, 0, 17998);
    }

    private static void wears(int kind, int amount, int want) {
        due.is("wears of kind " + kind + ", " + amount, one(kind, 5, amount, 3).told(0, 5), want);
    }

    private static void toldWears() {
        due.part("promise 4, wears");
        wears(0, 99999, 0);
        wears(1, 99, 0);
        wears(1, 100, 1);
        wears(1, 99999, 999);
        wears(2, 0, 0);
        wears(2, 1, 1);
        wears(2, 19, 1);
        wears(2, 20, 2);
        wears(2, 99999, 5000);
        wears(3, 299, 2);
        wears(4, 0, 0);
        wears(4, 1, 1);
        wears(4, 2, 2);
        wears(4, 3, 2);
        wears(4, 20, 4);
        wears(4, 99999, 10000);
        wears(5, 99999, 0);
    }

    private static void toldWorth() {
        due.part("promise 4, worth");
        int[] strong1 = {1, 10, 39, 20, 36, 60};
        int[] strong9 = {9, 18, 31, 36, 28, 60};
        for (int kind = 0; kind < 6; kind++) {
            due.is("worth of kind " + kind + ", 1", one(kind, 1, 77, 7).told(0, 6), strong1[kind]);
            due.is("worth of kind " + kind + ", 9", one(kind, 9, 0, 0).told(0, 6), strong9[kind]);
        }
    }

    private static void toldShareAndBill() {
        due.part("promise 4, share and bill");
        OldPot x = new OldPot();
        for (int i = 0; i < 8; i++) {
            x.thing(0, 9);
        }
        due.is("share of nothing", x.told(0, 7), 0);
        x.set(0, 2, 1);
        due.is("share of all", x.told(0, 7), 10000);
        due.is("share of none", x.told(1, 7), 0);
        x.set(1, 2, 2);
        due.is("a third", x.told(0, 7), 3333);
        due.is("two thirds", x.told(1, 7), 6666);
        for (int i = 0; i < 8; i++) {
            x.set(i, 2, 99999);
        }
        due.is("an eighth", x.told(7, 7), 1250);
        due.is("bill without a text", x.told(3, 8), 8999);
        Due.text(x, "bill t * 2 + w");
        due.is("bill", x.told(3, 8), 18007);
        x.turns(3, 5);
        due.is("bill of salt", x.told(3, 8), 36056);
        Due.text(x, "bill 0 - 9999 * 9999 * 9999");
        due.is("bill that wraps", x.told(3, 8), -(9999 * 9999 * 9999));
    }

    private static void as() {
        due.part("promise 5");
        int[] above = {-1, 0, 0, 1, 2, 0};
        for (int kind = 0; kind < 6; kind++) {
            OldPot x = one(kind, kind + 2, 0, 0);
            boolean[] of = new boolean[6];
            for (int up = kind; up >= 0; up = above[up]) {
                of[up] = true;
            }
            for (int asked = 0; asked < 6; asked++) {
                due.is("kind " + kind + " as " + asked, x.as(0, asked), of[asked] ? kind + 2 : Due.KIND);
            }
            due.is("as(0, -1)", x.as(0, -1), Due.BAD);
            due.is("as(0, 6)", x.as(0, 6), Due.BAD);
            due.is("as(1, 0)", x.as(1, 0), Due.BAD);
            due.is("as(-1, 0)", x.as(-1, 0), Due.BAD);
        }
    }

    private static void turns() {
        due.part("promise 6");
        OldPot x = one(0, 5, 1000, 20);
        due.is("turns(0, 6)", x.turns(0, 6), Due.BAD);
        due.is("turns(0, -1)", x.turns(0, -1), Due.BAD);
        due.is("turns(1, 0)", x.turns(1, 0), Due.BAD);
        due.is("turns(-1, 0)", x.turns(-1, 0), Due.BAD);
        int[] tastes = {50, 70, 10, 140, 5, 100};
        int was = 0;
        for (int kind = 5; kind >= 0; kind--) {
            due.is("turns(0, " + kind + ")", x.turns(0, kind), was);
            due.is("taste", x.told(0, 4), tastes[kind]);
            due.is("amount", x.told(0, 2), 1000);
            due.is("age", x.told(0, 3), 20);
            due.is("strong", x.told(0, 1), 5);
            was = kind;
        }
    }

    private static void set() {
        due.part("promise 7");
        OldPot x = one(1, 5, 10, 2);
        int[][] bad = {{0, 0, 1}, {0, 4, 1}, {0, -1, 1}, {1, 1, 1}, {-1, 1, 1}, {0, 1, 0}, {0, 1, 10},
            {0, 2, -1}, {0, 2, 100000}, {0, 3, -1}, {0, 3, 10000}};
        for (int[] b : bad) {
            due.is("set(" + b[0] + ", " + b[1] + ", " + b[2] + ")", x.set(b[0], b[1], b[2]), Due.BAD);
        }
        due.is("strong", x.set(0, 1, 9), 5);
        due.is("strong", x.set(0, 1, 1), 9);
        due.is("amount", x.set(0, 2, 99999), 10);
        due.is("amount", x.set(0, 2, 0), 99999);
        due.is("age", x.set(0, 3, 9999), 2);
        due.is("age", x.set(0, 3, 0), 9999);
        due.is("told(0, 0)", x.told(0, 0), 1);
        due.is("told(0, 1)", x.told(0, 1), 1);
        due.is("told(0, 2)", x.told(0, 2), 0);
        due.is("told(0, 3)", x.told(0, 3), 0);
    }

    private static int drawn(int[] z) {
        z[0] = z[0] * 1103515245 + 12345;
        return z[0] >>> 8;
    }

    private static void deal() {
        due.part("promise 8");
        OldPot x = new OldPot();
        due.is("deal(0)", x.deal(0), Due.BAD);
        due.is("deal(9)", x.deal(9), Due.BAD);
        due.is("deal(-1)", x.deal(-1), Due.BAD);
        due.is("count(7)", x.count(7), 1);
        int[] z = {-77};
        x.seed(-77);
        x.thing(0, 1);
        due.is("deal(5)", x.deal(5), 5);
        due.is("deal(8)", x.deal(8), 2);
        for (int i = 1; i < 8; i++) {
            due.is("kind of " + i, x.told(i, 0), drawn(z) % 6);
            due.is("strong of " + i, x.told(i, 1), 1 + drawn(z) % 9);
            due.is("amount of " + i, x.told(i, 2), drawn(z) % 1000);
            due.is("age of " + i, x.told(i, 3), 0);
        }
        due.is("count(7)", x.count(7), z[0]);
        due.is("deal(1) without room", x.deal(1), 0);
        due.is("deal(9) without room", x.deal(9), Due.BAD);
        due.is("count(7)", x.count(7), z[0]);
        due.is("count(0)", x.count(0), 8);
    }

    private static void seed() {
        due.part("promise 9");
        OldPot x = new OldPot();
        due.is("seed(MAX)", x.seed(Integer.MAX_VALUE), 1);
        due.is("seed(MIN)", x.seed(Integer.MIN_VALUE), Integer.MAX_VALUE);
        due.is("seed(0)", x.seed(0), Integer.MIN_VALUE);
        due.is("count(7)", x.count(7), 0);
        x.deal(1);
        due.is("kind", x.told(0, 0), (12345 >>> 8) % 6);
    }
}
