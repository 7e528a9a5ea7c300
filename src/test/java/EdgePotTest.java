/** The boundary cases of promises 10 to 14, sentence by sentence. */
public final class EdgePotTest {
    private static final Due due = new Due();
    private static final Edges edges = new Edges(due);

    public static void main(String[] args) {
        pot();
        days();
        daysUpToTheLast();
        taste();
        grams();
        lot();
        manyCalls();
        due.end();
    }

    private static void pot() {
        edges.of("THE POT (what 0), BOWLS (1) becomes v: what it was. BAD.", Edges.LIVED + """
            pot(-1, 5) => BAD; pot(2, 5) => BAD; pot(MIN, 5) => BAD; pot(MAX, 5) => BAD
            pot(0, 0) => BAD; pot(0, -1) => BAD; pot(0, 1000) => BAD; pot(0, MIN) => BAD; pot(0, MAX) => BAD
            pot(1, -1) => BAD; pot(1, 1000) => BAD; pot(1, MIN) => BAD; pot(1, MAX) => BAD
            count(2) => 120; count(3) => 30
            pot(0, 1) => 120; pot(0, 999) => 1; pot(0, 999) => 999; count(2) => 999; count(3) => 30
            pot(1, 0) => 30; pot(1, 999) => 0; pot(1, 999) => 999; count(3) => 999; count(2) => 999
            """);
    }

    private static void days() {
        edges.of("n (1 .. 300) DAYS", Edges.LIVED + """
            days(0) => BAD; days(-1) => BAD; days(301) => BAD; days(MIN) => BAD; days(MAX) => BAD; count(1) => 3
            days(1) => 84; count(1) => 4; days(300) => 90; count(1) => 304
            """);
        edges.of("TASTE of the pot then", "thing(0, 1); set(0, 2, 500); days(1) => 4; days(1) => 3; taste() => 3");
    }

    private static void daysUpToTheLast() {
        edges.of("(no more than up to 9999): TASTE of the pot then. BAD.", """
            33 x days(300); days(97); count(1) => 9997; thing(0, 1); pot(1, 50); set(0, 2, 8000)
            days(3) => 20; count(1) => 9999; told(0, 2) => 2000; told(0, 3) => 2; grams(0) => 6000
            days(1) => 20; days(300) => 20; told(0, 2) => 2000; told(0, 3) => 2; grams(0) => 6000; count(1) => 9999
            days(0) => BAD; days(301) => BAD; count(1) => 9999
            """);
        edges.of("(no more than up to 9999)", """
            33 x days(300); days(98); thing(0, 1); set(0, 2, 1000); days(2) => 8; count(1) => 9999; told(0, 2) => 800
            """);
    }

    private static void taste() {
        edges.of("`int taste()`: TASTE of the pot.", """
            taste() => 0; thing(0, 9); taste() => 0; set(0, 2, 11); taste() => 0; set(0, 2, 12); taste() => 1
            thing(5, 9); set(1, 2, 12); taste() => 3
            """);
    }

    private static void grams() {
        edges.of("What was 0 TAKEN, 1 GONE, 2 AMOUNT of all, together. BAD.", Edges.LIVED + """
            grams(-1) => BAD; grams(3) => BAD; grams(MIN) => BAD; grams(MAX) => BAD
            grams(0) => 1724; grams(1) => 245; grams(2) => 1681
            """);
        edges.of("2 AMOUNT of all, together", """
            grams(2) => 0; 8 x thing(0, 1); grams(2) => 0; set(0, 2, 99999); set(1, 2, 99999); set(2, 2, 99999)
            set(3, 2, 99999); set(4, 2, 99999); set(5, 2, 99999); set(6, 2, 99999); grams(2) => 699993
            set(7, 2, 99999); grams(2) => 799992; pot(1, 100); days(1); grams(2) => 0; grams(0) => 799992
            """);
    }

    private static void lot() {
        edges.of("(what lot gives is told by lot(); without a TEXT: 0)", """
            lot() => 0; thing(0, 9); set(0, 2, 1000); days(1); lot() => 0; text 'bill 5'; lot() => 0; text 'fade 5'
            lot() => 0; text 'lot'; lot() => 0; text 'lot 7'; lot() => 7
            """);
        edges.of("of lot d THE DAY, t TASTE of the pot", Edges.LAST_DAY + """
            text 'lot d'; lot() => 9999; text 'lot t'; lot() => 0; 8 x thing(3, 9); sheet(0, 1, 8); mark(0, 0, 99999)
            mark(0, 1, 99999); mark(0, 2, 99999); mark(0, 3, 99999); mark(0, 4, 99999); mark(0, 5, 99999)
            mark(0, 6, 99999); mark(0, 7, 99999); pour(0) => 8; lot() => 143984
            """);
        edges.of("`int lot()`: What lot gives.", "text 'lot d'; lot() => 0; days(1); lot() => 1; text 'lot 0-1'; lot() => -1");
    }

    private static void manyCalls() {
        due.part("'An object is used for at most 512 calls after it has been made'");
        OldPot x = new OldPot();
        for (int i = 1; i <= 511; i++) {
            due.is("seed, call " + i, x.seed(i), i == 1 ? 1 : i - 1);
        }
        due.is("the last call", x.count(7), 511);
    }
}
