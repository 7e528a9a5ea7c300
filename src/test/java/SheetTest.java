/** Promises 28 to 36: sheets and slots. */
public final class SheetTest {
    private static final Due due = new Due();

    public static void main(String[] args) {
        sheet();
        mark();
        pour();
        reads();
        copy();
        copyRefused();
        lay();
        laidForGood();
        ask();
        item();
        rest();
        due.end();
    }

    private static int at(OldPot x, int sheet, int place) {
        x.lay(4, 2, sheet);
        return x.item(4, place);
    }

    private static void sheet() {
        due.part("promise 28");
        OldPot x = new OldPot();
        int[][] bad = {{-1, 0, 3}, {4, 0, 3}, {0, -2, 3}, {0, 2, 3}, {0, 0, 25}, {0, 1, 25}, {4, -1, 3}, {4, 0, -1}, {0, 2, -1}};
        for (int[] b : bad) {
            due.is("sheet(" + b[0] + ", " + b[1] + ", " + b[2] + ")", x.sheet(b[0], b[1], b[2]), Due.BAD);
        }
        due.is("sheet(0, 0, -1)", x.sheet(0, 0, -1), Due.SIZE);
        due.is("sheet(0, 1, MIN)", x.sheet(0, 1, Integer.MIN_VALUE), Due.SIZE);
        due.is("still missing", x.pour(0), Due.NOTHING);
        due.is("sheet(0, 0, 0)", x.sheet(0, 0, 0), 0);
        due.is("there now", x.pour(0), 0);
        due.is("no places", x.mark(0, 0, 1), Due.INDEX);
        due.is("sheet(3, 1, 24)", x.sheet(3, 1, 24), 24);
        x.mark(3, 23, 77);
        due.is("a place", at(x, 3, 23), 77);
        due.is("sheet(3, 0, 23)", x.sheet(3, 0, 23), 23);
        due.is("no place", at(x, 3, 23), Due.INDEX);
        due.is("sheet(3, 0, 24)", x.sheet(3, 0, 24), 24);
        due.is("all 0", at(x, 3, 23), 0);
        x.mark(3, 0, 9);
        x.sheet(3, 0, 24);
        due.is("all 0", at(x, 3, 0), 0);
        x.mark(3, 5, 1);
        due.is("refused, it stays", x.sheet(3, 0, -1), Due.SIZE);
        due.is("a place", at(x, 3, 5), 1);
        due.is("sheet(3, -1, 99)", x.sheet(3, -1, 99), 0);
        due.is("missing", x.mark(3, 0, 0), Due.NOTHING);
        x.sheet(3, 0, 3);
        due.is("sheet(3, -1, -99)", x.sheet(3, -1, -99), 0);
        due.is("missing", x.mark(3, 0, 0), Due.NOTHING);
    }

    private static void mark() {
        due.part("promise 29");
        OldPot x = new OldPot();
        due.is("mark(-1, 0, 0)", x.mark(-1, 0, 0), Due.BAD);
        due.is("mark(4, 0, 0)", x.mark(4, 0, 0), Due.BAD);
        due.is("mark(0, 99, 0)", x.mark(0, 99, 0), Due.NOTHING);
        x.sheet(0, 0, 3);
        x.sheet(1, 1, 3);
        due.is("mark(0, -1, NONE)", x.mark(0, -1, Due.NONE), Due.INDEX);
        due.is("mark(0, 3, 0)", x.mark(0, 3, 0), Due.INDEX);
        due.is("mark(1, 3, 100000)", x.mark(1, 3, 100000), Due.INDEX);
        due.is("mark(0, 2, NONE)", x.mark(0, 2, Due.NONE), Due.KIND);
        due.is("it stays", at(x, 0, 2), 0);
        int[][] shorts = {{1, 1}, {32767, 32767}, {32768, -32768}, {65535, -1}, {65536, 0}, {-32769, 32767},
            {100000, 100000 - 131072}, {Integer.MIN_VALUE, 0}, {Integer.MAX_VALUE, -1}};
        for (int[] s : shorts) {
            due.is("mark(0, 2, " + s[0] + ")", x.mark(0, 2, s[0]), 1);
            due.is("short " + s[0], at(x, 0, 2), s[1]);
        }
        due.is("mark(1, 0, 99999)", x.mark(1, 0, 99999), 1);
        due.is("mark(1, 1, -99999)", x.mark(1, 1, -99999), 1);
        due.is("mark(1, 2, NONE)", x.mark(1, 2, Due.NONE), 1);
        due.is("mark(1, 0, 100000)", x.mark(1, 0, 100000), Due.BAD);
        due.is("mark(1, 1, -100000)", x.mark(1, 1, -100000), Due.BAD);
        due.is("mark(1, 2, NONE + 1)", x.mark(1, 2, Due.NONE + 1), Due.BAD);
        due.is("float", at(x, 1, 0), 99999);
        due.is("float", at(x, 1, 1), -99999);
        due.is("no number", at(x, 1, 2), Due.KIND);
        x.mark(1, 2, 4);
        due.is("a number again", at(x, 1, 2), 4);
    }

    private static void pour() {
        due.part("promise 30");
        OldPot x = new OldPot();
        due.is("pour(-1)", x.pour(-1), Due.BAD);
        due.is("pour(4)", x.pour(4), Due.BAD);
        due.is("pour(0)", x.pour(0), Due.NOTHING);
        x.sheet(0, 0, 24);
        due.is("no things", x.pour(0), 0);
        for (int i = 0; i < 4; i++) {
            x.thing(0, 5);
            x.set(i, 2, 10 + i);
            x.set(i, 3, 6);
        }
        x.sheet(1, 1, 3);
        x.mark(1, 0, 99999);
        x.mark(1, 1, Due.NONE);
        x.mark(1, 2, -4);
        due.is("pour(1)", x.pour(1), 2);
        int[] want = {99999, 11, 0, 13};
        for (int i = 0; i < 4; i++) {
            due.is("amount of " + i, x.told(i, 2), want[i]);
            due.is("age of " + i, x.told(i, 3), 6);
        }
        due.is("again", x.pour(1), 0);
        x.mark(0, 0, -1);
        x.mark(0, 1, 32767);
        x.mark(0, 3, 13);
        due.is("pour(0)", x.pour(0), 2);
        due.is("below 0", x.told(0, 2), 0);
        due.is("amount of 1", x.told(1, 2), 32767);
        for (int i = 4; i < 8; i++) {
            x.thing(0, 5);
        }
        for (int k = 0; k < 24; k++) {
            x.mark(0, k, 7);
        }
        due.is("more places than things", x.pour(0), 8);
        x.mark(0, 1, 32767);
        x.pour(0);
        x.sheet(2, 0, 0);
        due.is("no places", x.pour(2), 0);
        due.is("amount of 1", x.told(1, 2), 32767);
    }

    private static void reads() {
        due.part("promise 31");
        OldPot x = new OldPot();
        due.is("reads(-1)", x.reads(-1), Due.BAD);
        due.is("reads(4)", x.reads(4), Due.BAD);
        due.is("reads(0)", x.reads(0), Due.NOTHING);
        x.sheet(0, 1, 5);
        due.is("nothing in the pot", x.reads(0), Due.NONE);
        x.thing(0, 5);
        x.set(0, 2, 1000);
        due.is("reads(0)", x.reads(0), 0);
        int[] tastes = {50, 40, 32, 25, 20};
        for (int k = 0; k < 5; k++) {
            x.mark(0, k, tastes[k]);
            due.is("up to " + k, x.reads(0), k < 4 ? k + 1 : Due.NONE);
        }
        x.mark(0, 2, Due.NONE);
        due.is("no number", x.reads(0), Due.NONE);
        x.mark(0, 0, Due.NONE);
        x.mark(0, 3, 26);
        due.is("behind no number", x.reads(0), 3);
        x.sheet(1, 0, 0);
        due.is("no places", x.reads(1), Due.NONE);
        due.is("count(1)", x.count(1), 0);
    }

    private static OldPot two(int sort, int size) {
        OldPot x = new OldPot();
        x.sheet(0, sort, size);
        x.sheet(1, sort, size);
        for (int k = 0; k < size; k++) {
            x.mark(0, k, k + 1);
        }
        return x;
    }

    private static void places(OldPot x, int sheet, int... want) {
        for (int k = 0; k < want.length; k++) {
            due.is("sheet " + sheet + ", place " + k, at(x, sheet, k), want[k]);
        }
    }

    private static void copy() {
        due.part("promise 32");
        OldPot x = two(0, 5);
        due.is("to another", x.copy(0, 1, 1, 2, 3), 3);
        places(x, 1, 0, 0, 2, 3, 4);
        due.is("up", x.copy(0, 0, 0, 1, 4), 4);
        places(x, 0, 1, 1, 2, 3, 4);
        due.is("down", x.copy(0, 1, 0, 0, 4), 4);
        places(x, 0, 1, 2, 3, 4, 4);
        due.is("none", x.copy(0, 0, 1, 0, 0), 0);
        due.is("none, at the ends", x.copy(0, 5, 1, 5, 0), 0);
        due.is("all", x.copy(0, 0, 1, 0, 5), 5);
        places(x, 1, 1, 2, 3, 4, 4);
        OldPot y = two(1, 4);
        y.mark(0, 1, Due.NONE);
        due.is("floats", y.copy(0, 0, 1, 2, 2), 2);
        places(y, 1, 0, 0, 1, Due.KIND);
        y.sheet(2, 1, 24);
        due.is("another size", y.copy(0, 0, 2, 20, 4), 4);
        due.is("place 23", at(y, 2, 23), 4);
    }

    private static void copyRefused() {
        due.part("promise 32, refused");
        OldPot x = two(0, 5);
        x.sheet(2, 1, 3);
        int big = Integer.MAX_VALUE;
        int[][] calls = {
            {-1, 0, 0, 0, 0, Due.BAD}, {4, 0, 0, 0, 0, Due.BAD}, {0, 0, -1, 0, 0, Due.BAD}, {0, 0, 4, 0, 0, Due.BAD},
            {3, 0, 4, 0, 0, Due.BAD}, {3, 0, 0, 0, 0, Due.NOTHING}, {0, 0, 3, 0, 0, Due.NOTHING},
            {3, -1, 2, 0, 0, Due.NOTHING}, {0, 0, 2, 0, 1, Due.KIND}, {2, 9, 0, 0, 1, Due.KIND}, {0, 0, 2, 0, 0, Due.KIND},
            {0, -1, 1, 0, 1, Due.INDEX}, {0, 0, 1, -1, 1, Due.INDEX}, {0, 3, 1, 0, 3, Due.INDEX}, {0, 0, 1, 3, 3, Due.INDEX},
            {0, 0, 1, 0, 6, Due.INDEX}, {0, 6, 1, 0, 0, Due.INDEX}, {0, 0, 1, 6, 0, Due.INDEX}, {0, 0, 1, 0, -1, Due.INDEX},
            {0, big, 1, 0, 1, Due.INDEX}, {0, 1, 1, 0, big, Due.INDEX}, {0, big, 1, big, big, Due.INDEX},
            {0, 0, 1, big, 2, Due.INDEX}, {0, Integer.MIN_VALUE, 1, 0, 1, Due.INDEX}, {0, 5, 1, 5, -5, Due.INDEX},
        };
        for (int[] c : calls) {
            String call = "copy(" + c[0] + ", " + c[1] + ", " + c[2] + ", " + c[3] + ", " + c[4] + ")";
            due.is(call, x.copy(c[0], c[1], c[2], c[3], c[4]), c[5]);
        }
        places(x, 0, 1, 2, 3, 4, 5);
        places(x, 1, 0, 0, 0, 0, 0);
        places(x, 2, 0, 0, 0);
    }

    private static void lay() {
        due.part("promise 33");
        OldPot x = new OldPot();
        x.thing(1, 5);
        x.sheet(0, 0, 2);
        int[][] bad = {{-1, 0, 0}, {5, 0, 0}, {0, -1, 0}, {0, 4, 0}, {0, 1, -1}, {0, 1, 1}, {0, 2, -1}, {0, 2, 4}};
        for (int[] b : bad) {
            due.is("lay(" + b[0] + ", " + b[1] + ", " + b[2] + ")", x.lay(b[0], b[1], b[2]), Due.BAD);
        }
        due.is("missing", x.lay(0, 2, 1), Due.NOTHING);
        due.is("a number", x.lay(0, 3, 10), 0);
        due.is("a number", x.lay(0, 3, 12), 3);
        due.is("refused", x.lay(0, 2, 3), Due.NOTHING);
        due.is("refused", x.lay(0, 1, 8), Due.BAD);
        due.is("it stays", x.rest(0, 100), 12);
        due.is("a thing", x.lay(0, 1, 0), 3);
        due.is("a sheet", x.lay(0, 2, 0), 1);
        due.is("nothing", x.lay(0, 0, -7), 2);
        due.is("nothing", x.lay(0, 0, 99), 0);
        due.is("the last slot", x.lay(4, 3, Integer.MIN_VALUE), 0);
        due.is("the last slot", x.rest(4, Integer.MAX_VALUE), -1);
        due.is("the first slot", x.rest(0, 5), Due.NOTHING);
    }

    private static void laidForGood() {
        due.part("promise 33, for good");
        OldPot x = new OldPot();
        x.thing(3, 5);
        x.sheet(0, 1, 2);
        x.mark(0, 1, 8);
        x.lay(0, 1, 0);
        x.lay(1, 2, 0);
        x.turns(0, 4);
        x.set(0, 1, 9);
        x.mark(0, 1, 9);
        x.sheet(0, 0, 1);
        due.is("the thing as it was", x.ask(0, 3), 28);
        due.is("the sheet as it was", x.item(1, 1), 8);
        x.sheet(0, -1, 0);
        due.is("the sheet as it was", x.item(1, 1), 8);
        OldPot y = new OldPot();
        y.keep();
        y.thing(5, 5);
        y.lay(0, 1, 0);
        y.back();
        due.is("no image has slots", y.ask(0, 5), 60);
        due.is("the thing itself is gone", y.count(0), 0);
    }

    private static void ask() {
        due.part("promise 34");
        int[] above = {-1, 0, 0, 1, 2, 0};
        int[] worth = {4, 13, 36, 26, 33, 60};
        OldPot x = new OldPot();
        due.is("ask(-1, 0)", x.ask(-1, 0), Due.BAD);
        due.is("ask(5, 0)", x.ask(5, 0), Due.BAD);
        due.is("ask(0, -1)", x.ask(0, -1), Due.BAD);
        due.is("ask(0, 6)", x.ask(0, 6), Due.BAD);
        due.is("ask(0, 0)", x.ask(0, 0), Due.NOTHING);
        x.lay(0, 3, 1);
        due.is("a number", x.ask(0, 0), Due.KIND);
        due.is("a number, a kind that is none", x.ask(0, 6), Due.BAD);
        x.sheet(0, 0, 1);
        x.lay(0, 2, 0);
        due.is("a sheet", x.ask(0, 0), Due.KIND);
        for (int kind = 0; kind < 6; kind++) {
            x.thing(kind, 4);
            x.lay(1, 1, kind);
            boolean[] of = new boolean[6];
            for (int up = kind; up >= 0; up = above[up]) {
                of[up] = true;
            }
            for (int asked = 0; asked < 6; asked++) {
                due.is("kind " + kind + " for " + asked, x.ask(1, asked), of[asked] ? worth[kind] : Due.KIND);
            }
        }
    }

    private static void item() {
        due.part("promise 35");
        OldPot x = new OldPot();
        due.is("item(-1, 0)", x.item(-1, 0), Due.BAD);
        due.is("item(5, 0)", x.item(5, 0), Due.BAD);
        due.is("item(0, 0)", x.item(0, 0), Due.NOTHING);
        x.lay(0, 3, 1);
        due.is("a number", x.item(0, 0), Due.KIND);
        x.thing(0, 1);
        x.lay(0, 1, 0);
        due.is("a thing", x.item(0, 99), Due.KIND);
        x.sheet(0, 1, 2);
        x.mark(0, 0, -17);
        x.mark(0, 1, Due.NONE);
        x.lay(0, 2, 0);
        due.is("item(0, 0)", x.item(0, 0), -17);
        due.is("item(0, 1)", x.item(0, 1), Due.KIND);
        due.is("item(0, 2)", x.item(0, 2), Due.INDEX);
        due.is("item(0, -1)", x.item(0, -1), Due.INDEX);
        x.sheet(0, 0, 0);
        x.lay(0, 2, 0);
        due.is("no places", x.item(0, 0), Due.INDEX);
    }

    private static void rest() {
        due.part("promise 36");
        OldPot x = new OldPot();
        due.is("rest(-1, 0)", x.rest(-1, 0), Due.BAD);
        due.is("rest(5, 1)", x.rest(5, 1), Due.BAD);
        due.is("rest(0, 0)", x.rest(0, 0), Due.NOTHING);
        x.thing(0, 1);
        x.lay(0, 1, 0);
        due.is("a thing", x.rest(0, 0), Due.KIND);
        x.sheet(0, 0, 1);
        x.lay(0, 2, 0);
        due.is("a sheet", x.rest(0, 1), Due.KIND);
        x.lay(0, 3, 17);
        due.is("rest(0, 0)", x.rest(0, 0), Due.NO);
        due.is("rest(0, 5)", x.rest(0, 5), 2);
        due.is("rest(0, -5)", x.rest(0, -5), 2);
        x.lay(0, 3, -17);
        due.is("rest(0, 5)", x.rest(0, 5), -2);
        x.lay(0, 3, Integer.MIN_VALUE);
        due.is("rest(0, -1)", x.rest(0, -1), 0);
        due.is("rest(0, MIN)", x.rest(0, Integer.MIN_VALUE), 0);
    }
}
