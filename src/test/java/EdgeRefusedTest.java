/** What the document says of every call that is refused. */
public final class EdgeRefusedTest {
    private static final Due due = new Due();
    private static final Edges edges = new Edges(due);

    public static void main(String[] args) {
        whichFirst();
        whichFirstWhenFull();
        whatTheyChange();
        whatTheyChangeWithoutAnImage();
        whatTheyChangeWithoutThings();
        whatTheyChangeWhenFull();
        whatLookingChanges();
        whatTheyMayChange();
        whereThereIsNone();
        due.end();
    }

    /** Calls that would be refused for two reasons or more. */
    private static void whichFirst() {
        edges.of("A call that is refused answers one of BAD, NO, FULL, or a FINDING, of several the one that stands first with it", Edges.LIVED + """
            as(6, 1) => BAD; as(0, 6) => BAD; steer(-1, 31, 3) => BAD; leastPot(6, 99999, 0) => BAD; leastPot(0, 99999, 61) => BAD
            thrown(2, 2) => BAD; thrown(4, 0) => BAD; textTold(4, 2) => BAD; sheet(4, 0, -1) => BAD; sheet(0, 2, -1) => BAD
            mark(4, 24, 100000) => BAD; mark(2, 24, NONE) => NOTHING; mark(0, 3, NONE) => INDEX; mark(1, 4, 100000) => INDEX
            copy(2, -1, 4, 0, 0) => BAD; copy(2, -1, 1, 0, 0) => NOTHING; copy(1, -1, 2, 0, 9) => NOTHING
            copy(0, -1, 1, -1, -1) => KIND; lay(5, 2, 2) => BAD; lay(0, 4, 2) => BAD; ask(3, 6) => BAD; ask(5, 0) => BAD
            ask(1, -1) => BAD; item(5, 99) => BAD; item(3, 99) => NOTHING; item(0, 99) => KIND; rest(5, 0) => BAD
            rest(3, 0) => NOTHING; rest(1, 0) => KIND; rest(2, 0) => NO
            """);
        edges.of("of several the one that stands first with it", """
            check(0) => BAD; check(31) => BAD; check(1) => NO; steer(0, 0, 3) => BAD; steer(0, 0, 2) => NONE
            thrown(0, 2) => BAD; thrown(0, 1) => NOTHING; sheet(0, 0, 0); thrown(0, 2) => BAD; thrown(0, 1) => NONE
            toss(0, 0) => BAD; lay(0, 1, 0) => BAD; lay(0, 2, 1) => NOTHING; copy(0, 0, 1, 1, 1) => NOTHING
            copy(0, 0, 0, 1, 0) => INDEX
            """);
    }

    private static void whichFirstWhenFull() {
        edges.of("BAD, NO, FULL, or a FINDING", "8 x thing(0, 1); " + "text 'lot 1'; ".repeat(14) + """
            60 x tell(0); thing(6, 1) => BAD; thing(0, 0) => BAD; thing(0, 1) => FULL; text 'lot' => fault 3
            text 'lot 1' => FULL; tell(0) => FULL; check(31) => BAD; check(30) => NO; deal(9) => BAD; deal(8) => 0
            """);
    }

    /** One call of each kind of refusal; Edges looks at all that they may not change. */
    private static void whatTheyChange() {
        edges.of("and changes nothing (but the tape and the numbers that wait, where told)", Edges.LIVED + """
            thing(6, 1) => BAD; toss(0, 10000) => BAD; told(0, 9) => BAD; as(0, 6) => BAD; as(0, 1) => KIND; turns(0, 6) => BAD
            set(0, 1, 10) => BAD; set(0, 2, 100000) => BAD; set(0, 3, 10000) => BAD; deal(9) => BAD; pot(0, 0) => BAD
            pot(1, 1000) => BAD; days(301) => BAD; grams(3) => BAD; behind(0, 301, 0) => BAD; tasted(6) => BAD
            steer(0, 31, 0) => BAD; leastPot(0, 0, 61) => BAD; nearest(100000) => BAD; thrown(2, 0) => NOTHING; trim(8) => BAD
            textTold(4, 0) => BAD; why(3) => BAD; sheet(0, 0, 25) => BAD; sheet(0, 0, -1) => SIZE; mark(2, 0, 0) => NOTHING
            mark(0, 3, 0) => INDEX; mark(0, 0, NONE) => KIND; mark(1, 0, 100000) => BAD; pour(2) => NOTHING; pour(4) => BAD
            reads(2) => NOTHING; copy(0, 0, 1, 0, 1) => KIND; copy(0, 0, 3, 22, 3) => INDEX; copy(0, 0, 2, 0, 1) => NOTHING
            lay(0, 2, 2) => NOTHING; lay(1, 1, 6) => BAD; ask(0, 2) => KIND; item(1, 4) => INDEX; rest(2, 0) => NO
            count(8) => BAD; count(5) => 2; count(6) => 7; check(1) => 0; text() => 4; lot() => 21
            """);
    }

    /** The same refusals where there is no image, so that one which was made would be seen. */
    private static void whatTheyChangeWithoutAnImage() {
        edges.of("and changes nothing", Edges.UNKEPT + """
            thing(6, 1) => BAD; toss(0, 10000) => BAD; told(0, 9) => BAD; told(6, 0) => BAD; as(0, 6) => BAD; as(0, 2) => KIND
            turns(0, 6) => BAD; set(6, 1, 1) => BAD; set(0, 4, 1) => BAD; set(0, 1, 10) => BAD; set(0, 2, -1) => BAD
            set(0, 3, -1) => BAD; deal(9) => BAD; pot(0, 0) => BAD; pot(1, 1000) => BAD; days(301) => BAD; grams(3) => BAD
            behind(0, 301, 0) => BAD; tasted(6) => BAD; tasted(1) => NONE; steer(0, 31, 0) => BAD; leastPot(0, 0, 61) => BAD
            leastPot(0, 99999, 0) => NONE; nearest(100000) => BAD; thrown(2, 0) => NOTHING; thrown(0, 2) => BAD; differs() => NO
            trim(8) => BAD; textTold(4, 0) => BAD; why(3) => BAD; sheet(0, 0, 25) => BAD; sheet(0, 0, -1) => SIZE
            sheet(0, 2, 0) => BAD; mark(4, 0, 0) => BAD; mark(2, 0, 0) => NOTHING; mark(0, 3, 0) => INDEX
            mark(0, 0, NONE) => KIND; mark(1, 0, 100000) => BAD; pour(2) => NOTHING; pour(4) => BAD; reads(2) => NOTHING
            reads(4) => BAD; copy(0, 0, 4, 0, 1) => BAD; copy(0, 0, 1, 0, 1) => KIND; copy(0, 0, 3, 22, 3) => INDEX
            copy(0, 0, 2, 0, 1) => NOTHING; lay(0, 2, 2) => NOTHING; lay(5, 0, 0) => BAD; lay(1, 1, 6) => BAD; ask(0, 2) => KIND
            ask(1, 0) => KIND; ask(4, 0) => NOTHING; ask(5, 0) => BAD; item(1, 4) => INDEX; item(1, 1) => KIND; item(0, 0) => KIND
            item(4, 0) => NOTHING; item(5, 0) => BAD; rest(2, 0) => NO; rest(1, 1) => KIND; rest(4, 1) => NOTHING
            rest(5, 1) => BAD; count(8) => BAD; back() => NO; count(5) => 2; check(0) => BAD; check(1) => NO; check(31) => BAD
            keep(); tell(84); tell(1223); check(1) => 0
            """);
        edges.of("NO: there is none", Edges.UNKEPT + """
            back() => NO; differs() => NO; pot(1, 0); halved() => NONE; trim(0); tape 'lot'; text() => fault 3; count(5) => 2
            """);
        edges.of("FULL: 60 wait", Edges.UNKEPT + "58 x tell(0); tell(0) => FULL; 5 x feed(0, 0, 0); keep(); check(1) => 3");
        edges.of("`int tell(int v)`", "59 x tell(0); tell(0) => 60; tell(0) => FULL; differs() => NO; check(30) => NO; tell(0) => 1");
    }

    /** A pot that has lived, but in which nothing was ever thrown. */
    private static void whatTheyChangeWithoutThings() {
        edges.of("NONE: there are no THINGS", """
            days(5); text 'fade 1'; text 'bill 2'; text 'lot d'; keep(); days(2); pot(0, 99); pot(1, 9); seed(5); sheet(0, 0, 2)
            sheet(1, 1, 3); mark(1, 1, 4); lay(0, 3, 7); lay(1, 2, 1); lay(2, 3, 6); text 'lot d+1'; tell(0); tell(0)
            tape 'lot d*7'; steer(0, 0, 0) => NONE; steer(99999, 30, 2) => NONE; thrown(0, 0) => NONE; thrown(1, 1) => NONE
            toss(0, 1) => BAD; told(0, 0) => BAD; as(0, 0) => BAD; turns(0, 0) => BAD; set(0, 2, 0) => BAD; lay(0, 1, 0) => BAD
            behind(0, 0, 2) => BAD; tasted(0) => BAD; leastPot(0, 0, 0) => BAD; reads(0) => NONE; pour(1) => 0
            check(1) => 0; text() => 4; lot() => 49
            """);
    }

    /** Where all is full, and where nothing ever ends. */
    private static void whatTheyChangeWhenFull() {
        edges.of("8 at most", Edges.LIVED + "trim(0); thing(1, 1); thing(2, 2); " + "text 'lot d+7'; ".repeat(10) + """
            count(4) => 14; thing(0, 1) => FULL; tape 'lot 1'; text() => FULL; tape 'lot 1 1'; text() => fault 6; check(1) => 0
            58 x tell(0); count(5) => 58; tell(0) => 59; tell(0) => 60; tell(0) => FULL
            """);
        edges.of("14 at most", Edges.LIVED + "trim(0); " + "text 'lot d+7'; ".repeat(9) + """
            count(4) => 13; text 'lot d' => 13; text 'lot 1' => FULL; text 'lot' => fault 3; lot() => 3; why(2) => 13
            """);
        edges.of("NONE: there is none", Edges.LIVED + "sheet(2, 1, 0); reads(2) => NONE; sheet(2, 1, 1); mark(2, 0, NONE); reads(2) => NONE");
        edges.of("NONE: not by then.", Edges.LIVED + "pot(1, 0); halved() => NONE; tasted(0) => NONE; leastPot(0, 513, 60) => NONE");
        edges.of("60 wait", Edges.LIVED + "check(1) => 0; tell(82); tell(1681); 58 x tell(0); tell(0) => FULL; check(1) => 3");
        edges.of("more than 96", Edges.LIVED + """
            7 x feed(0x20202020, 0x20202020, 0x20202020); count(6) => 91; feed(1, 2, 3) => FULL; trim(92) => BAD; count(5) => 2
            check(1) => 0; text() => 4; lot() => 21
            """);
    }

    /** The calls with which Whole itself looks at an object: what they change is asked for right behind them. */
    private static void whatLookingChanges() {
        String look = """
            item(1, 0) => 99999; item(1, 2) => -7; item(1, 3) => 0; ask(0, 3) => 22; rest(2, MIN) => 1234567; check(1) => 0
            text() => 4; lot() => 21; lay(3, 0, 0) => 0; lay(4, 2, 0) => 0; item(4, 0) => 11; item(4, 1) => -5; item(4, 2) => 0
            lay(4, 2, 1) => 2; item(4, 0) => 99999; item(4, 2) => -7; item(4, 3) => 0; mark(1, 3, NONE) => 1; mark(0, 2, 9) => 1
            differs() => 7; lay(4, 2, 2) => NOTHING; back() => 6; told(1, 8) => 27; told(0, 2) => 640; count(7) => 77
            """;
        String[] calls = {"rest(3, 1) => NOTHING", "rest(0, 1) => KIND", "rest(1, 1) => KIND", "rest(2, 0) => NO", "rest(5, 1) => BAD",
            "ask(3, 0) => NOTHING", "ask(1, 0) => KIND", "ask(0, 2) => KIND", "ask(0, 6) => BAD", "item(3, 0) => NOTHING",
            "item(0, 0) => KIND", "item(1, 4) => INDEX", "item(1, 1) => KIND", "item(5, 0) => BAD", "copy(2, 0, 0, 0, 0) => NOTHING",
            "copy(0, 0, 1, 0, 0) => KIND", "lay(0, 2, 2) => NOTHING", "told(6, 0) => BAD", "told(0, 9) => BAD", "textTold(4, 0) => BAD",
            "why(3) => BAD", "count(8) => BAD", "grams(3) => BAD"};
        for (String call : calls) {
            edges.run("what " + call + " changes", Edges.LIVED + call + "\n" + look);
        }
    }

    private static void whatTheyMayChange() {
        edges.of("(but the tape and the numbers that wait, where told)", Edges.LIVED + """
            check(31) => BAD; count(5) => 0; count(6) => 7; tell(0); text 'x' => fault 7; count(6) => 0; count(5) => 1
            check(0) => BAD; count(5) => 0
            """);
        edges.of("where told)", """
            tell(5); tape 'lot 5'; check(1) => NO; count(5) => 0; count(6) => 5; back() => NO; differs() => NO; tell(5)
            trim(6) => BAD; count(6) => 5; count(5) => 1; text() => 0; count(5) => 1; text() => fault 0; count(5) => 1
            """);
    }

    private static void whereThereIsNone() {
        edges.of("NONE: there is none.", """
            steer(0, 0, 0) => NONE; why(0) => NONE; why(1) => NONE; why(2) => NONE; sheet(0, 1, 24); thrown(0, 0) => NONE
            reads(0) => NONE; thing(0, 9); pot(1, 0); set(0, 2, 1000); tasted(0) => NONE; leastPot(0, 1001, 0) => NONE
            halved() => NONE; tasted(0) => NONE; count(1) => 0; told(0, 2) => 1000
            """);
    }
}
