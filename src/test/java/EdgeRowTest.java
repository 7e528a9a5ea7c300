/** The boundary cases of the numbers that wait, of images, and of promises 37 to 41, sentence by sentence. */
public final class EdgeRowTest {
    private static final Due due = new Due();
    private static final Edges edges = new Edges(due);

    public static void main(String[] args) {
        lived();
        tell();
        checkRefused();
        checkNumbers();
        checkDays();
        checkLastDays();
        checkByTheImage();
        keep();
        back();
        whatAnImageKeeps();
        whatAnImageLeavesOut();
        count();
        due.end();
    }

    /** The pot that other runs begin with is what it says. */
    private static void lived() {
        edges.run("the pot that other runs begin with", Edges.LIVED + """
            count(0) => 6; count(1) => 3; count(2) => 120; count(3) => 30; count(4) => 4; count(5) => 2; count(6) => 7
            count(7) => -9; lot() => 113; taste() => 116; check(1) => 0; text() => 4; lot() => 21
            """);
    }

    private static void tell() {
        edges.of("One more number waits: how many. FULL: 60 wait.", """
            count(5) => 0; tell(0) => 1; tell(0) => 2; 56 x tell(0); count(5) => 58; tell(0) => 59; tell(0) => 60
            tell(0) => FULL; tell(7) => FULL; count(5) => 60; keep(); check(30) => 0; count(5) => 0; tell(MIN) => 1
            tell(MAX) => 2; tell(NONE) => 3
            """);
        edges.of("FULL: 60 wait.", "keep(); 59 x tell(0); tell(1) => 60; tell(0) => FULL; check(30) => 60; tell(0) => 1");
    }

    private static void checkRefused() {
        edges.of("(none do then, whatever is answered)", """
            tell(0); check(1) => NO; count(5) => 0; tell(0); check(0) => BAD; count(5) => 0; tell(0); check(31) => BAD
            count(5) => 0; keep(); tell(0); check(0) => BAD; count(5) => 0; tell(0); tell(0); check(31) => BAD
            count(5) => 0; tell(0); tell(0); check(1) => 0; count(5) => 0; tell(5); check(1) => 1; count(5) => 0
            tell(0); check(1) => 2; count(5) => 0; tell(0); tell(0); tell(0); check(1) => 3; count(5) => 0
            60 x tell(0); check(MIN) => BAD; count(5) => 0
            """);
        edges.of("BAD; NO: there is no IMAGE.", """
            check(0) => BAD; check(31) => BAD; check(-1) => BAD; check(MIN) => BAD; check(MAX) => BAD; check(1) => NO
            check(30) => NO; back() => NO; check(1) => NO; keep(); check(0) => BAD; check(31) => BAD; check(1) => 1
            """);
        edges.of("`int check(int n)`", Edges.LIVED + """
            check(0) => BAD; count(5) => 0; check(31) => BAD; tell(82); tell(1681); check(-1) => BAD; check(1) => 1
            """);
    }

    private static void checkNumbers() {
        edges.of("two by two: 0; else 1 and how many stand right ahead of the first that is not (or is missing, or one too many)", Edges.LIVED + """
            check(1) => 0; check(1) => 1; tell(82); check(1) => 2; tell(82); tell(1681); tell(60); check(1) => 3
            tell(82); tell(1681); check(2) => 3; tell(82); tell(1681); tell(60); check(2) => 4
            tell(82); tell(1681); tell(60); tell(1303); check(2) => 0; tell(82); tell(1681); tell(60); tell(1304)
            check(2) => 4; tell(82); tell(1681); tell(59); tell(1303); check(2) => 3; tell(82); tell(1680); tell(60)
            tell(1303); check(2) => 2; tell(83); tell(1681); tell(60); tell(1303); check(2) => 1; tell(1681); tell(82)
            check(1) => 1; tell(82); tell(1681); tell(60); tell(1303); tell(0); check(2) => 5; tell(82); tell(1681)
            tell(60); tell(1303); tell(43); check(2) => 5
            """);
    }

    private static void checkDays() {
        edges.of("THE DAYS TOLD of n (1 .. 30;", """
            keep(); 60 x tell(0); check(30) => 0; 59 x tell(0); check(30) => 60; 60 x tell(0); check(29) => 59
            """);
        edges.of("(1 .. 30;", "keep(); 58 x tell(0); check(29) => 0; 58 x tell(0); check(30) => 59; 2 x tell(0); check(1) => 0");
        edges.of("TASTE of the pot; AMOUNT of all, together, behind each.", """
            thing(0, 1); thing(5, 1); set(0, 2, 500); set(1, 2, 250); keep(); tell(8); tell(600); check(1) => 0
            tell(9); tell(750); check(1) => 1; tell(8); tell(600); tell(5); tell(480); check(2) => 0; tell(8); tell(600)
            tell(7); check(2) => 3; told(0, 2) => 500; count(1) => 0
            """);
    }

    private static void checkLastDays() {
        edges.of("fewer, if THE DAY would be above 9999", """
            33 x days(300); days(98); keep(); count(1) => 9998; check(30) => 1; tell(0); tell(0); check(30) => 0
            tell(0); tell(0); check(1) => 0; tell(0); tell(0); check(2) => 0; 4 x tell(0); check(2) => 3
            3 x tell(0); check(30) => 3; days(1); tell(0); tell(0); check(30) => 0; keep(); count(1) => 9999
            check(1) => 0; check(30) => 0; tell(0); check(1) => 1; tell(0); check(30) => 1; check(0) => BAD; check(31) => BAD
            """);
        edges.of("(1 .. 30; fewer, if THE DAY would be above 9999)", """
            32 x days(300); days(300); days(69); keep(); count(1) => 9969; 60 x tell(0); check(30) => 0; days(1); keep()
            58 x tell(0); check(30) => 0; 60 x tell(0); check(30) => 59
            """);
    }

    private static void checkByTheImage() {
        edges.of("of n DAYS, one behind the other, by THE IMAGE", Edges.LIVED + """
            set(0, 2, 5); pot(1, 0); days(9); text 'fade 9999'; turns(1, 5); deal(2); tell(60); tell(1303); check(2) => 0
            """);
    }

    private static void keep() {
        edges.of("AN IMAGE is kept: how many THINGS.", """
            keep() => 0; thing(0, 1); back() => 0; count(0) => 0; 7 x thing(0, 1); keep() => 7; thing(0, 1); keep() => 8
            keep() => 8; back() => 8; set(7, 2, 9); keep(); set(7, 2, 8); back(); told(7, 2) => 9
            """);
    }

    private static void back() {
        edges.of("All is as THE IMAGE: how many THINGS. NO: there is none.", """
            back() => NO; thing(0, 1); toss(0, 50); back() => NO; told(0, 2) => 50; keep() => 1; back() => 1
            deal(7) => 7; back() => 1; count(7) => 1; told(1, 0) => BAD; toss(1, 1) => BAD; thing(0, 9) => 1
            told(1, 2) => 0; told(1, 3) => 0; told(1, 1) => 9; set(1, 2, 77); set(1, 3, 7); back(); thing(4, 2) => 1
            told(1, 2) => 0; told(1, 3) => 0; told(1, 0) => 4
            """);
        edges.of("all can become as it is (again and again)", Edges.LIVED + """
            back() => 6; taste() => 109; days(300); back() => 6; taste() => 109; deal(2); set(0, 2, 0); text 'fade 0'
            text 'bill 0'; back() => 6; taste() => 109; told(1, 8) => 27; lot() => 2109; count(4) => 3; text 'fade 1' => 3
            back(); why(0) => 0; taste() => 109; differs() => 0
            """);
    }

    private static void whatAnImageKeeps() {
        edges.of("AN IMAGE keeps all but SHEETS, SLOTS, numbers that wait, THE TAPE", Edges.LIVED + """
            back() => 6; count(0) => 6; count(1) => 2; count(2) => 100; count(3) => 20; count(4) => 3; count(7) => 77
            told(0, 0) => 0; told(1, 3) => 2; told(0, 2) => 640; grams(0) => 1291; grams(1) => 187; grams(2) => 2172
            why(2) => 2; lot() => 2109; textTold(3, 0) => BAD
            """);
        edges.of("AN IMAGE keeps all", """
            thing(1, 3); set(0, 2, 99999); set(0, 3, 9999); seed(MIN); pot(0, 999); pot(1, 999); text 'lot 5'; keep()
            turns(0, 2); set(0, 1, 1); set(0, 2, 0); set(0, 3, 0); seed(MAX); pot(0, 1); pot(1, 0); text 'lot 6'; days(300)
            back() => 1; told(0, 0) => 1; told(0, 1) => 3; told(0, 2) => 99999; told(0, 3) => 9999; count(7) => MIN
            count(2) => 999; count(3) => 999; count(4) => 1; count(1) => 0; lot() => 5; why(2) => 0
            """);
        edges.of("all can become as it is", """
            days(5); keep(); text 'lot !d+1' => 0; lot() => 1; back(); lot() => 0; text 'lot d' => 0; lot() => 5
            textTold(0, 1) => 1; back(); text 'bill 1+1+1+1' => 0; textTold(0, 0) => 1; textTold(0, 1) => 4; why(2) => NONE
            back(); text 'fade' => fault 4; textTold(0, 0) => BAD; why(0) => NONE; why(1) => NONE; text 'lot !d' => 0
            back(); text 'lot d' => 0; lot() => 5
            """);
        edges.of("TEXTS, 14 at most", "text 'lot 1'\n".repeat(13) + """
            keep(); text 'lot 2' => 13; text 'lot 3' => FULL; lot() => 2; back(); lot() => 1; count(4) => 13
            text 'lot 4' => 13; lot() => 4; text 'lot 5' => FULL; keep(); back(); text 'lot 6' => FULL; lot() => 4
            """);
    }

    private static void whatAnImageLeavesOut() {
        edges.of("keeps all but SHEETS, SLOTS, numbers that wait, THE TAPE", """
            sheet(0, 0, 1); mark(0, 0, 5); lay(0, 3, 5); tell(5); tape 'lot 5'; keep(); sheet(0, 1, 2); mark(0, 1, 6)
            sheet(1, 0, 1); lay(0, 3, 6); lay(1, 2, 0); tell(6); trim(3); back() => 0; count(5) => 2; count(6) => 3
            rest(0, 10) => 6; item(1, 1) => 6; mark(0, 1, NONE) => 1; mark(1, 0, 0) => 1; lay(0, 0, 0); sheet(0, -1, 0)
            check(0); trim(0); back(); rest(0, 10) => NOTHING; reads(0) => NOTHING; count(5) => 0; count(6) => 0
            """);
    }

    private static void count() {
        edges.of("How many: 0 THINGS, 1 THE DAY, 2 THE POT, 3 BOWLS, 4 TEXTS, 5 numbers that wait, 6 bytes of THE TAPE, 7 z. BAD.", Edges.LIVED + """
            count(-1) => BAD; count(8) => BAD; count(MIN) => BAD; count(MAX) => BAD; count(0) => 6; count(1) => 3
            count(2) => 120; count(3) => 30; count(4) => 4; count(5) => 2; count(6) => 7; count(7) => -9
            """);
    }
}
