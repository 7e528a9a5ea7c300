/** Promises 37 to 41: rows that can be checked, images, counts. */
public final class RowTest {
    private static final Due due = new Due();

    public static void main(String[] args) {
        tell();
        check();
        checkEdges();
        checkLastDays();
        keepAndBack();
        whatAnImageLeavesOut();
        count();
        due.end();
    }

    private static void tell() {
        due.part("promise 37");
        OldPot x = new OldPot();
        for (int i = 1; i <= 60; i++) {
            due.is("tell", x.tell(-i), i);
        }
        due.is("the 61st", x.tell(0), Due.FULL);
        due.is("count(5)", x.count(5), 60);
    }

    private static OldPot salted() {
        OldPot x = new OldPot();
        x.thing(5, 5);
        x.thing(2, 9);
        x.set(0, 2, 1000);
        x.set(1, 2, 400);
        return x;
    }

    /** Days by days: salt 800, 640; herb 320 - 17, 243 - 13. */
    private static final int[] DAYS = {80 + 25, 1103, 64 + 16, 870};

    private static void tellAll(OldPot x, int... numbers) {
        for (int v : numbers) {
            x.tell(v);
        }
    }

    private static void check() {
        due.part("promise 38");
        OldPot x = salted();
        x.tell(1);
        due.is("no image", x.check(1), Due.NO);
        due.is("none wait", x.count(5), 0);
        x.tell(1);
        due.is("check(0)", x.check(0), Due.BAD);
        due.is("none wait", x.count(5), 0);
        x.keep();
        tellAll(x, DAYS);
        due.is("as told", x.check(2), 0);
        due.is("none wait", x.count(5), 0);
        due.is("all missing", x.check(2), 1);
        tellAll(x, DAYS);
        due.is("two too many", x.check(1), 3);
        tellAll(x, DAYS[0], DAYS[1], DAYS[2]);
        due.is("one missing", x.check(2), 4);
        for (int wrong = 0; wrong < 4; wrong++) {
            int[] numbers = DAYS.clone();
            numbers[wrong]++;
            tellAll(x, numbers);
            due.is("wrong at " + wrong, x.check(2), 1 + wrong);
            due.is("none wait", x.count(5), 0);
        }
        tellAll(x, DAYS);
        x.tell(5);
        due.is("one too many", x.check(2), 5);
        due.is("the day stays", x.count(1), 0);
        tellAll(x, 1, 2);
        due.is("check(31)", x.check(31), Due.BAD);
        due.is("none wait", x.count(5), 0);
        due.is("check(-1)", x.check(-1), Due.BAD);
    }

    private static void checkEdges() {
        due.part("promise 38, by the image");
        OldPot x = salted();
        x.keep();
        x.set(0, 2, 5);
        x.pot(1, 90);
        x.days(7);
        Due.text(x, "fade t");
        tellAll(x, DAYS);
        due.is("by the image, not by now", x.check(2), 0);
        OldPot y = salted();
        y.keep();
        for (int n = 1; n <= 30; n++) {
            y.tell(y.behind(0, n, 2));
            y.tell(y.behind(0, n, 0) + y.behind(1, n, 0));
        }
        due.is("thirty days", y.check(30), 0);
        for (int n = 1; n <= 30; n++) {
            y.tell(y.behind(0, n, 2));
            y.tell(y.behind(0, n, 0) + y.behind(1, n, 0));
        }
        due.is("too many for 29", y.check(29), 59);
        due.is("check(31) without an image", new OldPot().check(31), Due.BAD);
    }

    private static void checkLastDays() {
        due.part("promise 38, the last days");
        OldPot x = salted();
        x.pot(1, 0);
        for (int i = 0; i < 33; i++) {
            x.days(300);
        }
        x.days(97);
        x.pot(1, 20);
        x.set(0, 2, 1000);
        x.set(1, 2, 400);
        x.set(1, 3, 0);
        due.is("count(1)", x.count(1), 9997);
        x.keep();
        tellAll(x, DAYS);
        due.is("two days are left", x.check(30), 0);
        tellAll(x, DAYS);
        x.tell(0);
        due.is("a third is too many", x.check(3), 5);
        x.days(2);
        tellAll(x, DAYS);
        due.is("the day of the image, not of now", x.check(30), 0);
        x.keep();
        due.is("no days are left", x.check(30), 0);
        x.tell(0);
        due.is("one too many", x.check(30), 1);
    }

    private static void keepAndBack() {
        due.part("promises 39, 40");
        OldPot x = new OldPot();
        due.is("back()", x.back(), Due.NO);
        due.is("nothing kept", x.keep(), 0);
        x.thing(1, 3);
        x.thing(4, 8);
        due.is("back()", x.back(), 0);
        due.is("count(0)", x.count(0), 0);
        x.thing(1, 3);
        x.thing(4, 8);
        x.toss(0, 500);
        x.toss(1, 700);
        x.pot(0, 200);
        x.pot(1, 30);
        x.seed(55);
        x.days(3);
        Due.text(x, "lot d + 7000");
        String was = all(x);
        due.is("keep()", x.keep(), 2);
        for (int round = 0; round < 3; round++) {
            x.days(5);
            x.turns(0, 2);
            x.set(1, 1, 1);
            x.set(0, 3, 500);
            x.pot(0, 7);
            x.pot(1, 9);
            x.deal(4);
            Due.text(x, "lot 1");
            Due.text(x, "fade 1");
            Due.text(x, "bill " + round);
            due.is("otherwise", all(x).equals(was) ? 1 : 0, 0);
            due.is("back()", x.back(), 2);
            due.is("as it was", all(x).equals(was) ? 1 : 0, 1);
        }
        x.days(1);
        String later = all(x);
        due.is("keep() again", x.keep(), 2);
        x.deal(6);
        x.days(2);
        due.is("back()", x.back(), 2);
        due.is("as it was later", all(x).equals(later) ? 1 : 0, 1);
        due.is("as it was first", all(x).equals(was) ? 1 : 0, 0);
        x.thing(0, 5);
        x.toss(2, 500);
        x.days(3);
        x.back();
        x.thing(0, 5);
        due.is("a new thing's amount", x.told(2, 2), 0);
        due.is("a new thing's age", x.told(2, 3), 0);
    }

    private static String all(OldPot x) {
        StringBuilder s = new StringBuilder();
        for (int i = 0; i < 8; i++) {
            for (int what = 0; what < 9; what++) {
                s.append(x.told(i, what)).append(' ');
            }
            s.append(x.count(i)).append(' ');
        }
        for (int i = 0; i < 3; i++) {
            s.append(x.grams(i)).append(' ').append(x.why(i)).append(' ').append(x.textTold(i, 0)).append(' ');
        }
        return s.append(x.lot()).toString();
    }

    private static void whatAnImageLeavesOut() {
        due.part("promise 40, what stays");
        OldPot x = new OldPot();
        x.sheet(0, 0, 2);
        x.mark(0, 0, 5);
        x.lay(0, 3, 21);
        x.tell(4);
        x.feed(1, 2, 3);
        x.keep();
        x.sheet(0, 1, 3);
        x.mark(0, 2, 6);
        x.sheet(1, 0, 1);
        x.lay(0, 3, 22);
        x.lay(1, 2, 0);
        x.tell(4);
        x.feed(1, 2, 3);
        x.trim(20);
        x.back();
        due.is("the tape", x.count(6), 20);
        due.is("numbers that wait", x.count(5), 2);
        due.is("a slot", x.rest(0, 100), 22);
        due.is("a slot", x.item(1, 2), 6);
        due.is("a sheet", x.mark(0, 2, Due.NONE), 1);
        due.is("a sheet", x.mark(1, 0, 1), 1);
    }

    private static void count() {
        due.part("promise 41");
        OldPot x = new OldPot();
        due.is("count(-1)", x.count(-1), Due.BAD);
        due.is("count(8)", x.count(8), Due.BAD);
        x.thing(0, 1);
        x.days(4);
        x.pot(0, 300);
        x.pot(1, 40);
        Due.text(x, "lot 1");
        Due.text(x, "lot 1");
        x.tell(1);
        x.tell(1);
        x.tell(1);
        x.feed(0, 0, 0);
        x.trim(5);
        x.seed(-9);
        int[] want = {1, 4, 300, 40, 2, 3, 5, -9};
        for (int i = 0; i < 8; i++) {
            due.is("count(" + i + ")", x.count(i), want[i]);
        }
    }
}
