/** Promises 15 to 22: what will be. */
public final class ThoughtTest {
    private static final Due due = new Due();

    public static void main(String[] args) {
        behind();
        tasted();
        steer();
        steerEdges();
        steerWithSomeIn();
        leastPot();
        nearest();
        thrown();
        halved();
        differs();
        nothingChanges();
        due.end();
    }

    private static void behind() {
        due.part("promise 15");
        OldPot x = new OldPot();
        due.is("behind(0, 1, 0)", x.behind(0, 1, 0), Due.BAD);
        x.thing(0, 5);
        x.thing(1, 5);
        x.set(0, 2, 1000);
        x.set(1, 2, 500);
        x.days(1);
        int[][] bad = {{-1, 0, 0}, {2, 0, 0}, {0, -1, 0}, {0, 301, 0}, {0, 0, -1}, {0, 0, 4}};
        for (int[] b : bad) {
            due.is("behind(" + b[0] + ", " + b[1] + ", " + b[2] + ")", x.behind(b[0], b[1], b[2]), Due.BAD);
        }
        due.is("behind(0, 0, 0)", x.behind(0, 0, 0), 800);
        due.is("behind(1, 0, 1)", x.behind(1, 0, 1), 19 + 1);
        due.is("behind(1, 0, 2)", x.behind(1, 0, 2), 40 + 20);
        due.is("behind(1, 0, 3)", x.behind(1, 0, 3), 300);
        due.is("behind(0, 1, 0)", x.behind(0, 1, 0), 640);
        due.is("behind(1, 1, 0)", x.behind(1, 1, 0), 314);
        due.is("behind(1, 1, 1)", x.behind(1, 1, 1), 15 + 2);
        due.is("behind(0, 1, 2)", x.behind(0, 1, 2), 32 + 17);
        due.is("behind(0, 1, 3), with what was taken", x.behind(0, 1, 3), 300 + 160 + 79);
        due.is("behind(0, 300, 0)", x.behind(0, 300, 0), 4);
        due.is("grams(0)", x.grams(0), 300);
        due.is("told(1, 3)", x.told(1, 3), 1);
    }

    private static void tasted() {
        due.part("promise 16");
        OldPot x = new OldPot();
        due.is("tasted(0)", x.tasted(0), Due.BAD);
        x.thing(0, 1);
        x.thing(1, 1);
        x.thing(2, 9);
        due.is("tasted(-1)", x.tasted(-1), Due.BAD);
        due.is("tasted(3)", x.tasted(3), Due.BAD);
        due.is("none of it", x.tasted(0), 0);
        x.set(0, 2, 100);
        due.is("one day", x.tasted(0), 1);
        x.set(0, 2, 99);
        due.is("none at once", x.tasted(0), 0);
        x.pot(1, 0);
        x.set(0, 2, 100);
        due.is("never", x.tasted(0), Due.NONE);
        x.set(1, 2, 5);
        due.is("a bone that begins to taste", x.tasted(1), 0);
        x.set(1, 3, 1);
        due.is("a bone", x.tasted(1), Due.NONE);
        x.pot(0, 999);
        x.pot(1, 1);
        x.set(0, 2, 9999);
        due.is("a long time, not long enough", x.tasted(0), Due.NONE);
        x.set(2, 2, 700);
        due.is("a herb", x.tasted(2), 15);
        x.pot(1, 10);
        x.set(0, 2, 1182);
        due.is("just 300 days", x.tasted(0), 300);
        x.set(0, 2, 1193);
        due.is("301 days", x.tasted(0), Due.NONE);
    }

    private static void steer() {
        due.part("promise 17");
        OldPot x = new OldPot();
        due.is("without things", x.steer(5, 5, 0), Due.NONE);
        int[][] bad = {{-1, 0, 0}, {100000, 0, 0}, {0, -1, 0}, {0, 31, 0}, {0, 0, -1}, {0, 0, 3}};
        for (int[] b : bad) {
            due.is("steer(" + b[0] + ", " + b[1] + ", " + b[2] + ")", x.steer(b[0], b[1], b[2]), Due.BAD);
        }
        x.thing(0, 2);
        x.thing(5, 2);
        due.is("steer(31, 0, 0)", x.steer(31, 0, 0), 1);
        due.is("steer(31, 0, 1)", x.steer(31, 0, 1), 750);
        due.is("steer(31, 0, 2)", x.steer(31, 0, 2), 30);
        due.is("of several the least thing", x.steer(20, 0, 0), 0);
        due.is("of several the least thing", x.steer(20, 0, 1), 1000);
        due.is("the least thing, 0 of it", x.steer(0, 0, 0), 0);
        due.is("the least thing, 0 of it", x.steer(0, 0, 1), 0);
        due.is("of several the least", x.steer(16, 1, 0), 0);
        due.is("of several the least", x.steer(16, 1, 1), 1000);
        due.is("of several the least", x.steer(15, 1, 1), 950);
        due.is("far away", x.steer(99999, 30, 2), x.behind(0, 30, 2) + 2 * 2 * least(1000, 30) / 100);
        due.is("nothing was thrown in", x.grams(2), 0);
    }

    private static int least(int amount, int days) {
        int left = amount;
        for (int i = 0; i < days; i++) {
            left -= left * 20 / 100;
        }
        return left;
    }

    private static void steerEdges() {
        due.part("promise 17, edges");
        OldPot x = new OldPot();
        x.thing(0, 9);
        x.set(0, 2, 99500);
        due.is("no room beyond 99999", x.steer(99999, 0, 2), 8999);
        due.is("the least that fills", x.steer(99999, 0, 1), 500);
        due.is("what is near from above", x.steer(8957, 0, 1), 0);
        due.is("two as near: the least", x.steer(8957, 0, 2), 8955);
        x.thing(1, 1);
        x.set(1, 3, 10);
        x.set(0, 2, 0);
        due.is("a bone with an age", x.steer(11, 0, 0), 1);
        due.is("a bone with an age", x.steer(11, 0, 1), 100);
        due.is("a bone with an age", x.steer(11, 0, 2), 11);
        due.is("two differ alike, the thing 0 first", x.steer(2, 0, 0), 0);
        due.is("two differ alike, 0 first", x.steer(2, 0, 1), 0);
    }

    private static void steerWithSomeIn() {
        due.part("promise 17, with some in");
        OldPot x = new OldPot();
        int[][] in = {{1, 4, 500, 3}, {2, 9, 700, 2}, {0, 5, 400, 0}};
        for (int i = 0; i < in.length; i++) {
            x.thing(in[i][0], in[i][1]);
            x.set(i, 2, in[i][2]);
            x.set(i, 3, in[i][3]);
        }
        int[][] calls = {{100, 2, 1, 850, 101}, {61, 2, 0, 150, 61}, {97, 4, 1, 1000, 60}, {30, 3, 0, 0, 43},
            {150, 1, 1, 1000, 145}};
        for (int[] c : calls) {
            for (int what = 0; what < 3; what++) {
                due.is("steer(" + c[0] + ", " + c[1] + ", " + what + ")", x.steer(c[0], c[1], what), c[2 + what]);
            }
        }
    }

    private static void leastPot() {
        due.part("promise 18");
        OldPot x = new OldPot();
        due.is("leastPot(0, 0, 0)", x.leastPot(0, 0, 0), Due.BAD);
        x.thing(0, 5);
        x.thing(2, 5);
        int[][] bad = {{-1, 0, 0}, {2, 0, 0}, {0, -1, 0}, {0, 100000, 0}, {0, 0, -1}, {0, 0, 61}};
        for (int[] b : bad) {
            due.is("leastPot(" + b[0] + ", " + b[1] + ", " + b[2] + ")", x.leastPot(b[0], b[1], b[2]), Due.BAD);
        }
        due.is("nothing is wanted", x.leastPot(0, 0, 60), 10);
        due.is("none is enough", x.leastPot(0, 1, 0), Due.NONE);
        x.set(0, 2, 1000);
        x.set(1, 2, 1000);
        due.is("at once", x.leastPot(0, 1000, 0), 10);
        due.is("at once, too much", x.leastPot(0, 1001, 0), Due.NONE);
        due.is("bowls are more than the pot", x.leastPot(0, 1, 1), 30);
        due.is("30 of which 20 are taken", x.leastPot(0, 334, 1), 30);
        due.is("a little more", x.leastPot(0, 335, 1), 40);
        due.is("the largest", x.leastPot(0, 980, 1), 960);
        due.is("the largest", x.leastPot(0, 979, 1), 910);
        due.is("20200 / 990 of it", x.leastPot(0, 981, 1), Due.NONE);
        due.is("a herb wears", x.leastPot(1, 930, 1), 910);
        due.is("a herb wears", x.leastPot(1, 931, 1), Due.NONE);
        x.pot(1, 0);
        due.is("no bowls", x.leastPot(0, 1000, 60), 10);
        x.pot(1, 999);
        due.is("more bowls than any pot", x.leastPot(0, 1, 1), Due.NONE);
        x.pot(1, 980);
        due.is("the last pot", x.leastPot(0, 1, 1), 990);
        due.is("the last pot is not enough", x.leastPot(0, 12, 1), Due.NONE);
        due.is("count(2)", x.count(2), 100);
    }

    private static void nearest() {
        due.part("promise 19");
        OldPot x = new OldPot();
        due.is("nearest(-1)", x.nearest(-1), Due.BAD);
        due.is("nearest(100000)", x.nearest(100000), Due.BAD);
        due.is("nothing in it", x.nearest(99999), 0);
        x.thing(0, 5);
        x.set(0, 2, 1000);
        due.is("nearest(50)", x.nearest(50), 0);
        due.is("nearest(46)", x.nearest(46), 0);
        due.is("as near on both sides, the first", x.nearest(45), 0);
        due.is("nearest(44)", x.nearest(44), 1);
        due.is("nearest(0)", x.nearest(0), 19);
        OldPot y = new OldPot();
        y.thing(1, 1);
        y.toss(0, 3);
        y.pot(1, 0);
        y.set(0, 3, 0);
        due.is("a bone by its age", y.nearest(7), 7);
        due.is("the first of its best", y.nearest(99), 30);
        OldPot z = new OldPot();
        z.thing(0, 9);
        z.set(0, 2, 99999);
        z.pot(0, 999);
        z.pot(1, 1);
        due.is("not behind more than 100 days", z.nearest(0), 100);
    }

    private static void thrown() {
        due.part("promise 20");
        OldPot x = new OldPot();
        int[][] bad = {{-1, 0}, {4, 0}, {0, -1}, {0, 2}};
        for (int[] b : bad) {
            due.is("thrown(" + b[0] + ", " + b[1] + ")", x.thrown(b[0], b[1]), Due.BAD);
        }
        due.is("missing", x.thrown(0, 0), Due.NOTHING);
        x.sheet(0, 0, 3);
        due.is("no things", x.thrown(0, 0), Due.NONE);
        x.thing(0, 2);
        x.thing(5, 2);
        x.thing(5, 2);
        x.sheet(1, 1, 0);
        due.is("no places", x.thrown(1, 0), 0);
        due.is("no places", x.thrown(1, 1), 0);
        x.mark(0, 0, 19);
        x.mark(0, 1, 18);
        x.mark(0, 2, -3);
        due.is("the second", x.thrown(0, 0), 1);
        due.is("the second", x.thrown(0, 1), 1 + 2 + 15);
        x.set(2, 1, 9);
        x.set(2, 2, 5);
        x.sheet(3, 0, 1);
        x.mark(3, 0, 90);
        due.is("505 times 9 / 100, twice", x.thrown(3, 1), 0);
        x.set(2, 2, 55);
        due.is("555 times 9 / 100, twice: not 556", x.thrown(3, 1), 8);
        x.set(2, 1, 2);
        x.set(2, 2, 0);
        x.mark(0, 0, 15);
        x.mark(0, 1, 12);
        x.mark(0, 2, 9);
        due.is("the first, as good", x.thrown(0, 1), 5 + 4 + 3);
        due.is("the first, as good", x.thrown(0, 0), 0);
        x.sheet(2, 1, 3);
        x.mark(2, 0, -99999);
        x.mark(2, 1, Due.NONE);
        x.mark(2, 2, 99999);
        due.is("floats", x.thrown(2, 0), 0);
        due.is("floats", x.thrown(2, 1), 99999 + 10 + 99999 - 6);
        x.set(0, 2, 99800);
        x.set(0, 1, 9);
        x.sheet(0, 0, 1);
        x.mark(0, 0, 9500);
        due.is("no room beyond 99999", x.thrown(0, 0), 1);
        due.is("no room beyond 99999", x.thrown(0, 1), 9500 - 8982 - 20);
        due.is("nothing was thrown in", x.grams(2), 99800);
    }

    private static void halved() {
        due.part("promise 21");
        OldPot x = new OldPot();
        due.is("nothing in it", x.halved(), 0);
        x.thing(0, 1);
        x.set(0, 2, 99);
        due.is("no taste in both", x.halved(), 0);
        x.set(0, 2, 100);
        due.is("one day", x.halved(), 1);
        x.set(0, 2, 201);
        due.is("201 and 100, 161 and 80, 129 and 64, 104 and 52, 84 and 42", x.halved(), 4);
        x.pot(1, 0);
        due.is("never", x.halved(), Due.NONE);
        x.turns(0, 2);
        x.set(0, 2, 99999);
        x.set(0, 1, 9);
        due.is("herbs that fade", x.halved(), 79);
        due.is("told(0, 2)", x.told(0, 2), 99999);
        OldPot y = new OldPot();
        y.thing(0, 2);
        y.set(0, 2, 449);
        y.pot(0, 999);
        y.pot(1, 4);
        due.is("just 200 days", y.halved(), 200);
        y.pot(1, 3);
        y.set(0, 1, 1);
        y.set(0, 2, 600);
        due.is("201 days", y.halved(), Due.NONE);
        OldPot z = new OldPot();
        z.thing(5, 9);
        z.set(0, 2, 9);
        due.is("none to be tasted", z.halved(), 0);
        z.set(0, 2, 40);
        due.is("salt", z.halved(), halvedSalt(40));
    }

    private static int halvedSalt(int amount) {
        int a = amount;
        int b = amount / 2;
        for (int n = 0; n <= 200; n++) {
            if (a * 9 / 100 == b * 9 / 100) {
                return n;
            }
            a -= a * 20 / 100;
            b -= b * 20 / 100;
        }
        return Due.NONE;
    }

    private static void differs() {
        due.part("promise 22");
        OldPot x = new OldPot();
        due.is("no image", x.differs(), Due.NO);
        x.thing(2, 9);
        x.set(0, 2, 1000);
        x.keep();
        due.is("alike", x.differs(), 0);
        x.set(0, 2, 2000);
        due.is("more", x.differs(), 90);
        x.set(0, 2, 100);
        due.is("less", x.differs(), -81);
        x.set(0, 2, 1000);
        Due.text(x, "fade 13");
        due.is("a text that the image has not", x.differs(), -13);
        x.keep();
        due.is("a text that both have", x.differs(), 0);
        Due.text(x, "fade 20");
        due.is("each by its own text", x.differs(), -7);
    }

    /** Every call that only thinks, then all that can be told is as it was. */
    private static void nothingChanges() {
        due.part("promises 15 to 22, nothing changes");
        OldPot x = new OldPot();
        x.seed(9);
        x.deal(8);
        x.days(3);
        x.keep();
        x.sheet(0, 0, 24);
        String was = all(x);
        x.behind(0, 300, 2);
        due.is("behind", all(x).equals(was) ? 1 : 0, 1);
        x.tasted(1);
        due.is("tasted", all(x).equals(was) ? 1 : 0, 1);
        x.steer(300, 30, 1);
        due.is("steer", all(x).equals(was) ? 1 : 0, 1);
        x.leastPot(2, 100, 60);
        due.is("leastPot", all(x).equals(was) ? 1 : 0, 1);
        x.nearest(20);
        due.is("nearest", all(x).equals(was) ? 1 : 0, 1);
        x.thrown(0, 0);
        due.is("thrown", all(x).equals(was) ? 1 : 0, 1);
        x.halved();
        due.is("halved", all(x).equals(was) ? 1 : 0, 1);
        x.differs();
        x.reads(0);
        x.check(30);
        due.is("differs, reads, check", all(x).equals(was) ? 1 : 0, 1);
        x.days(3);
        x.back();
        due.is("the image", all(x).equals(was) ? 1 : 0, 1);
    }

    private static String all(OldPot x) {
        StringBuilder s = new StringBuilder();
        for (int i = 0; i < 8; i++) {
            for (int what = 0; what < 9; what++) {
                s.append(x.told(i, what)).append(' ');
            }
            s.append(x.count(i)).append(' ');
        }
        return s.append(x.grams(0)).append(' ').append(x.grams(1)).append(' ').append(x.differs()).toString();
    }
}
