/** Promises 10 to 14: the pot and its days. */
public final class PotTest {
    private static final Due due = new Due();

    public static void main(String[] args) {
        pot();
        days();
        daysOfEachKind();
        lastDay();
        taste();
        grams();
        lot();
        due.end();
    }

    private static void pot() {
        due.part("promise 10");
        OldPot x = new OldPot();
        int[][] bad = {{0, 0}, {0, -1}, {0, 1000}, {1, -1}, {1, 1000}, {2, 5}, {-1, 5}};
        for (int[] b : bad) {
            due.is("pot(" + b[0] + ", " + b[1] + ")", x.pot(b[0], b[1]), Due.BAD);
        }
        due.is("count(2)", x.count(2), 100);
        due.is("count(3)", x.count(3), 20);
        due.is("pot(0, 1)", x.pot(0, 1), 100);
        due.is("pot(0, 999)", x.pot(0, 999), 1);
        due.is("count(2)", x.count(2), 999);
        due.is("pot(1, 0)", x.pot(1, 0), 20);
        due.is("pot(1, 999)", x.pot(1, 999), 0);
        due.is("count(3)", x.count(3), 999);
        due.is("count(2)", x.count(2), 999);
    }

    private static void days() {
        due.part("promise 11");
        OldPot x = new OldPot();
        due.is("days(0)", x.days(0), Due.BAD);
        due.is("days(-1)", x.days(-1), Due.BAD);
        due.is("days(301)", x.days(301), Due.BAD);
        due.is("count(1)", x.count(1), 0);
        x.thing(0, 9);
        x.thing(0, 1);
        x.set(0, 2, 99999);
        x.set(1, 2, 4);
        x.pot(0, 999);
        x.pot(1, 998);
        due.is("days(1)", x.days(1), 9);
        due.is("what is left", x.told(0, 2), 101);
        due.is("what is left", x.told(1, 2), 1);
        due.is("taken", x.grams(0), 99898 + 3);
        due.is("age", x.told(0, 3), 1);
        x.pot(1, 999);
        due.is("bowls are the pot", x.days(1), 0);
        due.is("what is left", x.told(0, 2), 0);
        due.is("taken", x.grams(0), 100003);
        due.is("age of what is none", x.told(0, 3), 0);
        x.toss(0, 1000);
        x.pot(0, 1);
        due.is("bowls are more than the pot", x.days(1), 0);
        due.is("taken", x.grams(0), 101003);
        x.toss(0, 1000);
        x.pot(1, 0);
        due.is("no bowls", x.days(300), 90);
        due.is("what is left", x.told(0, 2), 1000);
        due.is("age", x.told(0, 3), 300);
        due.is("count(1)", x.count(1), 303);
        x.set(0, 3, 9998);
        x.set(1, 3, 50);
        x.days(1);
        due.is("age", x.told(0, 3), 9999);
        due.is("age of what is none", x.told(1, 3), 0);
        x.days(1);
        due.is("age stays", x.told(0, 3), 9999);
        due.is("gone of none", x.grams(1), 0);
        x.set(1, 2, 1);
        x.days(2);
        due.is("age of a single one", x.told(1, 3), 2);
    }

    /** What is taken goes first, and what wears goes of what is left then. */
    private static void daysOfEachKind() {
        due.part("promise 11, kinds");
        OldPot x = new OldPot();
        for (int kind = 0; kind < 6; kind++) {
            x.thing(kind, 5);
            x.set(kind, 2, 1000);
        }
        int[] wears = {0, 8, 41, 8, 82, 0};
        int[] tastes = {40, 40, 35, 80, 16, 80};
        due.is("days(1)", x.days(1), 40 + 40 + 35 + 80 + 16 + 80);
        for (int kind = 0; kind < 6; kind++) {
            due.is("amount of " + kind, x.told(kind, 2), 800 - wears[kind]);
            due.is("taste of " + kind, x.told(kind, 4), tastes[kind]);
            due.is("age of " + kind, x.told(kind, 3), 1);
        }
        due.is("taken", x.grams(0), 1200);
        due.is("gone", x.grams(1), 139);
        OldPot y = new OldPot();
        y.thing(4, 5);
        y.toss(0, 2);
        y.pot(1, 0);
        y.days(1);
        due.is("a leaf's last", y.told(0, 2), 0);
        due.is("its age", y.told(0, 3), 0);
        due.is("gone", y.grams(1), 2);
    }

    private static void lastDay() {
        due.part("promise 11, the last day");
        OldPot x = new OldPot();
        for (int i = 0; i < 33; i++) {
            x.days(300);
        }
        due.is("count(1)", x.count(1), 9900);
        x.thing(0, 5);
        x.toss(0, 9999);
        x.pot(1, 0);
        due.is("days(98)", x.days(98), 499);
        due.is("count(1)", x.count(1), 9998);
        x.pot(1, 20);
        due.is("days(300)", x.days(300), 400);
        due.is("count(1)", x.count(1), 9999);
        due.is("what is left", x.told(0, 2), 8000);
        due.is("days(1)", x.days(1), 400);
        due.is("what is left", x.told(0, 2), 8000);
        due.is("age", x.told(0, 3), 99);
        due.is("count(1)", x.count(1), 9999);
        due.is("days(0)", x.days(0), Due.BAD);
        due.is("thought goes on", x.behind(0, 1, 0), 6400);
        due.is("thought goes on", x.behind(0, 2, 0), 5120);
        due.is("count(1)", x.count(1), 9999);
    }

    private static void taste() {
        due.part("promise 12");
        OldPot x = new OldPot();
        due.is("taste()", x.taste(), 0);
        for (int kind = 0; kind < 6; kind++) {
            x.thing(kind, 7);
            x.set(kind, 2, 555);
            x.set(kind, 3, 11);
        }
        due.is("taste()", x.taste(), 38 + 49 + 16 + 98 + 8 + 76);
        Due.text(x, "fade a - g * t");
        due.is("a fade that is more than all", x.taste(), 38 + 49 + 98 + 76 + 0);
        Due.text(x, "fade g + 1");
        due.is("taste()", x.taste(), 38 + 49 + 26 + 98 + 13 + 76);
        Due.text(x, "fade 0 - 9999 * 9999 * 21");
        due.is("a fade far below 0", x.taste(), 38 + 49 + 38 + 98 + 19 + 76);
        Due.text(x, "fade t");
        due.is("a fade that is just all", x.taste(), 38 + 49 + 98 + 76);
        Due.text(x, "fade t - 1");
        due.is("a fade that is all but 1", x.taste(), 38 + 49 + 1 + 98 + 76);
        OldPot y = new OldPot();
        y.thing(2, 1);
        y.set(0, 2, 100);
        due.is("a taste of 1 that has not faded", y.taste(), 1);
        y.set(0, 3, 1);
        due.is("a taste of 1 that has faded", y.taste(), 0);
    }

    private static void grams() {
        due.part("promise 13");
        OldPot x = new OldPot();
        due.is("grams(-1)", x.grams(-1), Due.BAD);
        due.is("grams(3)", x.grams(3), Due.BAD);
        x.thing(2, 5);
        x.thing(0, 5);
        x.toss(0, 100);
        x.toss(1, 31);
        x.days(1);
        due.is("taken", x.grams(0), 26);
        due.is("gone", x.grams(1), 5);
        due.is("amount of all", x.grams(2), 100);
        x.days(1);
        due.is("taken", x.grams(0), 26 + 15 + 5);
        due.is("gone", x.grams(1), 5 + 4);
        due.is("amount of all", x.grams(2), 76);
    }

    private static void lot() {
        due.part("promise 14");
        OldPot x = new OldPot();
        due.is("lot()", x.lot(), 0);
        x.thing(5, 5);
        x.toss(0, 1000);
        due.is("lot()", x.lot(), 0);
        Due.text(x, "lot d * 1000 + t");
        due.is("lot()", x.lot(), 100);
        x.days(2);
        due.is("lot()", x.lot(), 2064);
        Due.text(x, "bill 7");
        due.is("lot()", x.lot(), 2064);
        Due.text(x, "lot t");
        due.is("lot()", x.lot(), 64);
        due.is("nothing changed", x.told(0, 2), 640);
    }
}
