/** The boundary cases of the document's part 3 and of promises 15 to 22, sentence by sentence. */
public final class EdgeThoughtTest {
    private static final Due due = new Due();
    private static final Edges edges = new Edges(due);

    public static void main(String[] args) {
        beyondTheLastDay();
        ageInThought();
        behind();
        tasted();
        steer();
        steerOfSeveral();
        leastPot();
        nearest();
        thrown();
        thrownDifferences();
        halved();
        differs();
        eightThings();
        due.end();
    }

    private static void beyondTheLastDay() {
        edges.of("(All this is only thought, from now on, without the bound of THE DAY: nothing changes.)", Edges.LAST_DAY + """
            thing(0, 1); pot(1, 50); set(0, 2, 8000); behind(0, 0, 0) => 8000; behind(0, 1, 0) => 4000
            behind(0, 300, 0) => 1; behind(0, 2, 1) => 20; behind(0, 3, 2) => 10; behind(0, 3, 3) => 7000
            tasted(0) => 7; steer(40, 1, 0) => 0; steer(40, 1, 1) => 0; steer(40, 1, 2) => 40; leastPot(0, 4000, 1) => 100
            leastPot(0, 4001, 1) => 110; nearest(80) => 0; nearest(1) => 6; nearest(0) => 7; halved() => 7
            sheet(0, 0, 3); mark(0, 0, 85); mark(0, 1, 42); mark(0, 2, 21); thrown(0, 0) => 0; thrown(0, 1) => 0
            reads(0) => 0; mark(0, 0, 80); mark(0, 1, 40); mark(0, 2, 20); reads(0) => NONE; mark(0, 2, 21)
            reads(0) => 2; count(1) => 9999; told(0, 2) => 8000; told(0, 3) => 0; grams(0) => 0
            """);
    }

    /** The bound of an age is no bound of the day: it stays in thought. */
    private static void ageInThought() {
        edges.of("is 1 more (9999 at most)", """
            thing(2, 9); pot(1, 0); set(0, 2, 9999); set(0, 3, 9998); text 'fade g-9990'; behind(0, 0, 1) => 891
            behind(0, 1, 0) => 9499; behind(0, 1, 1) => 845; behind(0, 2, 0) => 9024; behind(0, 2, 1) => 803
            days(2) => 803; told(0, 3) => 9999
            """);
    }

    private static void behind() {
        edges.of("BEHIND n (0 .. 300) DAYS of a THING: what 0 AMOUNT, 1 its TASTE, 2 TASTE of the pot, 3 TAKEN. BAD.", Edges.LIVED + """
            behind(0, -1, 0) => BAD; behind(0, 301, 0) => BAD; behind(0, MIN, 0) => BAD; behind(0, MAX, 0) => BAD
            behind(-1, 0, 0) => BAD; behind(6, 0, 0) => BAD; behind(8, 0, 0) => BAD; behind(MIN, 0, 0) => BAD
            behind(MAX, 0, 0) => BAD; behind(0, 0, -1) => BAD; behind(0, 0, 4) => BAD; behind(0, 0, MIN) => BAD
            behind(0, 0, MAX) => BAD; behind(0, 0, 0) => 512; behind(0, 0, 1) => 50; behind(0, 0, 2) => 116
            behind(0, 0, 3) => 1724; behind(5, 1, 0) => 96; behind(5, 1, 1) => 4; behind(5, 1, 2) => 84
            behind(5, 1, 3) => 2142; behind(0, 300, 0) => 3
            """);
        edges.of("BEHIND n (0 .. 300) DAYS", """
            thing(0, 9); pot(0, 999); pot(1, 1); set(0, 2, 99999); behind(0, 0, 0) => 99999; behind(0, 1, 0) => 99899
            behind(0, 299, 0) => 74252; behind(0, 300, 0) => 74178; behind(0, 300, 3) => 25821
            behind(0, 301, 0) => BAD; days(1); behind(0, 299, 0) => 74178; behind(0, 300, 0) => 74104
            behind(0, 300, 3) => 25895
            """);
    }

    private static void tasted() {
        edges.of("`int tasted(int thing)`: TASTED. BAD; NONE: not by then.", Edges.LIVED + """
            tasted(-1) => BAD; tasted(6) => BAD; tasted(8) => BAD; tasted(MIN) => BAD; tasted(MAX) => BAD
            tasted(5) => 5; tasted(1) => NONE; set(1, 2, 0); tasted(1) => 0
            """);
        edges.of("behind how many DAYS (0 .. 300) the TASTE of a THING is 0 first", """
            thing(0, 1); tasted(0) => 0; set(0, 2, 99); tasted(0) => 0; set(0, 2, 100); tasted(0) => 1; set(0, 2, 123)
            tasted(0) => 1; set(0, 2, 124); tasted(0) => 2; pot(0, 999); pot(1, 10); set(0, 2, 1181); tasted(0) => 299
            set(0, 2, 1182); tasted(0) => 300; set(0, 2, 1192); tasted(0) => 300; set(0, 2, 1193); tasted(0) => NONE
            """);
        edges.of("is 0 first", "thing(1, 1); set(0, 2, 4); tasted(0) => 0; days(1); tasted(0) => NONE; told(0, 4) => 1");
    }

    private static void steer() {
        edges.of("STEER to w (0 .. 99999) in n (0 .. 30): what 0 the THING, 1 how much more, 2 TASTE of the pot then. BAD;", Edges.LIVED + """
            steer(-1, 0, 0) => BAD; steer(100000, 0, 0) => BAD; steer(MIN, 0, 0) => BAD; steer(MAX, 0, 0) => BAD
            steer(0, -1, 0) => BAD; steer(0, 31, 0) => BAD; steer(0, MIN, 0) => BAD; steer(0, MAX, 0) => BAD
            steer(0, 0, -1) => BAD; steer(0, 0, 3) => BAD; steer(0, 0, MIN) => BAD; steer(0, 0, MAX) => BAD
            steer(0, 0, 0) => 0; steer(0, 0, 1) => 0; steer(0, 0, 2) => 116
            steer(99999, 0, 0) => 0; steer(99999, 0, 1) => 1000; steer(99999, 0, 2) => 216
            """);
        edges.of("NONE: there are no THINGS.", """
            steer(0, 0, 0) => NONE; steer(99999, 30, 2) => NONE; steer(-1, 0, 0) => BAD; steer(100000, 0, 0) => BAD
            steer(0, -1, 0) => BAD; steer(0, 31, 0) => BAD; steer(0, 0, 3) => BAD; steer(0, 0, -1) => BAD
            thing(0, 1); steer(0, 0, 0) => 0
            """);
        edges.of("how much more of it (0 .. 20 times 50)", """
            thing(0, 9); steer(0, 0, 1) => 0; steer(1, 0, 1) => 0; steer(2, 0, 1) => 0; steer(3, 0, 1) => 50
            steer(3, 0, 2) => 4; steer(90, 0, 1) => 1000; steer(94, 0, 1) => 1000; steer(94, 0, 2) => 90
            steer(87, 0, 1) => 950; steer(88, 0, 1) => 1000; steer(99999, 0, 1) => 1000; steer(99999, 0, 2) => 90
            """);
        edges.of("in n (0 .. 30)", """
            thing(0, 9); pot(0, 999); pot(1, 30); steer(99999, 29, 2) => 37; steer(99999, 30, 2) => 36
            steer(99999, 31, 2) => BAD; steer(99999, 0, 2) => 90; steer(99999, 1, 2) => 87
            """);
        edges.of("with which TASTE of the pot behind n DAYS and w differ least", """
            thing(0, 1); thing(0, 9); set(0, 2, 1000); steer(99999, 0, 2) => 100; steer(99999, 1, 0) => 1
            steer(99999, 1, 2) => 80; turns(0, 1); set(0, 2, 100); set(0, 3, 3); set(1, 1, 1); steer(99999, 1, 0) => 0
            steer(99999, 1, 1) => 950; steer(99999, 1, 2) => 12; steer(0, 1, 1) => 0; steer(0, 1, 2) => 4
            """);
        edges.of("thrown in now (99999 at most)", """
            thing(0, 9); set(0, 2, 99500); steer(99999, 0, 1) => 500; steer(99999, 0, 2) => 8999; steer(8995, 0, 1) => 450
            steer(8998, 0, 1) => 500; set(0, 2, 99999); steer(99999, 0, 1) => 0; steer(99999, 0, 2) => 8999
            """);
    }

    private static void steerOfSeveral() {
        edges.of("of several the least THING, then the least", """
            thing(0, 1); thing(0, 9); thing(0, 9); steer(0, 0, 0) => 0; steer(0, 0, 1) => 0; steer(1, 0, 0) => 0
            steer(1, 0, 1) => 100; steer(9, 0, 0) => 0; steer(9, 0, 1) => 900; steer(10, 0, 1) => 1000
            steer(11, 0, 0) => 0; steer(11, 0, 1) => 1000; steer(12, 0, 0) => 1; steer(12, 0, 1) => 150
            steer(12, 0, 2) => 13; steer(13, 0, 0) => 1; steer(90, 0, 0) => 1
            """);
        edges.of("differ least; of several the least THING", """
            thing(0, 9); steer(11, 0, 1) => 100; steer(11, 0, 2) => 9; steer(20, 0, 1) => 200; steer(20, 0, 2) => 18
            thing(5, 5); steer(20, 0, 0) => 1; steer(20, 0, 1) => 200; steer(20, 0, 2) => 20
            """);
    }

    private static void leastPot() {
        edges.of("LEAST POT for a THING, k (0 .. 99999), n (0 .. 60). BAD; NONE: none is enough.", Edges.LIVED + """
            leastPot(-1, 0, 0) => BAD; leastPot(6, 0, 0) => BAD; leastPot(8, 0, 0) => BAD; leastPot(MIN, 0, 0) => BAD
            leastPot(MAX, 0, 0) => BAD; leastPot(0, -1, 0) => BAD; leastPot(0, 100000, 0) => BAD
            leastPot(0, MIN, 0) => BAD; leastPot(0, MAX, 0) => BAD; leastPot(0, 0, -1) => BAD; leastPot(0, 0, 61) => BAD
            leastPot(0, 0, MIN) => BAD; leastPot(0, 0, MAX) => BAD; leastPot(0, 0, 0) => 10; leastPot(0, 512, 0) => 10
            leastPot(0, 513, 0) => NONE; leastPot(0, 0, 60) => 10; leastPot(5, 128, 0) => 10; leastPot(5, 99999, 0) => NONE
            count(2) => 120
            """);
        edges.of("the least THE POT, 10 to 990 by tens", """
            thing(0, 1); set(0, 2, 1000); pot(1, 9); leastPot(0, 100, 1) => 10; leastPot(0, 101, 1) => 20
            leastPot(0, 550, 1) => 20; leastPot(0, 551, 1) => 30; pot(1, 10); leastPot(0, 1, 1) => 20; pot(1, 11)
            leastPot(0, 1, 1) => 20; pot(1, 980); leastPot(0, 11, 1) => 990; leastPot(0, 12, 1) => NONE
            pot(1, 989); leastPot(0, 1, 1) => 990; leastPot(0, 2, 1) => 990; leastPot(0, 3, 1) => NONE
            pot(1, 990); leastPot(0, 1, 1) => NONE; pot(1, 0); leastPot(0, 1000, 60) => 10; leastPot(0, 1001, 60) => NONE
            """);
        edges.of("AMOUNT of it behind n DAYS is k or more", """
            thing(0, 1); set(0, 2, 99999); leastPot(0, 99999, 0) => 10; leastPot(0, 5000, 59) => 410
            leastPot(0, 5000, 60) => 420; leastPot(0, 5000, 61) => BAD; leastPot(0, 29405, 60) => 990
            leastPot(0, 29406, 60) => NONE; leastPot(0, 29039, 60) => 980; leastPot(0, 29040, 60) => 990
            """);
    }

    private static void nearest() {
        edges.of("`int nearest(int w)`: NEAREST to w (0 .. 99999). BAD.", Edges.LIVED + """
            nearest(-1) => BAD; nearest(100000) => BAD; nearest(MIN) => BAD; nearest(MAX) => BAD
            nearest(99999) => 0; nearest(84) => 1; nearest(116) => 0
            """);
        edges.of("behind how many DAYS (0 .. 100) TASTE of the pot and w differ least; of several the first", """
            nearest(0) => 0; nearest(99999) => 0; thing(0, 9); set(0, 2, 99999); pot(0, 999); pot(1, 1); nearest(0) => 100
            nearest(8146) => 100; nearest(8138) => 100; nearest(8154) => 99; nearest(8150) => 99; nearest(8149) => 100
            nearest(8999) => 0; nearest(8995) => 0; nearest(8994) => 1; nearest(8990) => 1; nearest(99999) => 0
            """);
        edges.of("of several the first", """
            thing(1, 1); set(0, 2, 1); pot(1, 0); nearest(0) => 0; nearest(30) => 30; nearest(31) => 30; nearest(99999) => 30
            pot(1, 100); nearest(0) => 0; set(0, 3, 5); nearest(0) => 1; nearest(3) => 0; nearest(2) => 1
            """);
    }

    private static void thrown() {
        edges.of("THROWN by a SHEET: what 0 the THING, 1 the differences, together. BAD; NOTHING; NONE: there are no THINGS.", """
            thrown(-1, 0) => BAD; thrown(4, 0) => BAD; thrown(MIN, 0) => BAD; thrown(MAX, 0) => BAD; thrown(0, -1) => BAD
            thrown(0, 2) => BAD; thrown(0, MIN) => BAD; thrown(0, MAX) => BAD; thrown(0, 0) => NOTHING
            thrown(3, 1) => NOTHING; sheet(0, 0, 0); thrown(0, 0) => NONE; thrown(0, 1) => NONE; thrown(0, 2) => BAD
            sheet(3, 1, 24); thrown(3, 0) => NONE; thrown(3, 2) => BAD; thrown(2, 0) => NOTHING
            thing(0, 1); thrown(2, 0) => NOTHING; thrown(0, 0) => 0; thrown(0, 1) => 0; thrown(3, 2) => BAD
            """);
        edges.of("`int thrown(int sheet, int what)`", Edges.LIVED + """
            thrown(-1, 0) => BAD; thrown(4, 1) => BAD; thrown(0, -1) => BAD; thrown(1, 2) => BAD; thrown(2, -1) => BAD
            thrown(2, 0) => NOTHING; thrown(2, 1) => NOTHING
            """);
        edges.of("if 500 more of it were thrown in now (99999 at most)", """
            thing(0, 1); sheet(0, 1, 1); mark(0, 0, 5); thrown(0, 1) => 0; set(0, 2, 99); thrown(0, 1) => 0
            set(0, 2, 100); thrown(0, 1) => 1; set(0, 1, 9); set(0, 2, 99499); mark(0, 0, 8999); thrown(0, 1) => 0
            set(0, 2, 99500); thrown(0, 1) => 0; set(0, 2, 99999); thrown(0, 1) => 0; mark(0, 0, 9000); thrown(0, 1) => 1
            """);
    }

    private static void thrownDifferences() {
        edges.of("TASTE of the pot behind k DAYS and places k that are numbers (k from 0 on) differ least (signs left out), together", """
            thing(0, 1); pot(1, 0); sheet(0, 1, 24); thrown(0, 1) => 120; mark(0, 0, NONE); thrown(0, 1) => 115
            mark(0, 23, NONE); thrown(0, 1) => 110; mark(0, 1, -5); thrown(0, 1) => 115; mark(0, 2, 10)
            thrown(0, 1) => 115; mark(0, 3, 4); mark(0, 4, 6); thrown(0, 1) => 107; mark(0, 22, 99999)
            thrown(0, 1) => 100096; mark(0, 21, -99999); thrown(0, 1) => 200095; pot(1, 100); thrown(0, 1) => 200023
            """);
        edges.of("places k that are numbers (k from 0 on)", """
            thing(0, 9); thing(5, 9); sheet(0, 1, 3); mark(0, 0, NONE); mark(0, 1, NONE); mark(0, 2, NONE)
            thrown(0, 0) => 0; thrown(0, 1) => 0; mark(0, 2, 57); thrown(0, 0) => 1; thrown(0, 1) => 1
            mark(0, 1, 36); thrown(0, 0) => 0; thrown(0, 1) => 29; mark(0, 0, 90); thrown(0, 0) => 1; thrown(0, 1) => 37
            """);
        edges.of("together; of several the least.", """
            thing(0, 1); thing(0, 9); thing(0, 9); sheet(0, 0, 1); mark(0, 0, 45); thrown(0, 0) => 1; mark(0, 0, 25)
            thrown(0, 0) => 0; thrown(0, 1) => 20; mark(0, 0, 26); thrown(0, 0) => 1; thrown(0, 1) => 19; mark(0, 0, 24)
            thrown(0, 0) => 0; sheet(0, 0, 0); thrown(0, 0) => 0
            """);
    }

    private static void halved() {
        edges.of("behind how many DAYS (0 .. 200) TASTE of that pot and of this one are alike first", """
            halved() => 0; thing(0, 2); halved() => 0; set(0, 2, 49); halved() => 0; set(0, 2, 50); halved() => 1
            pot(0, 999); pot(1, 4); set(0, 2, 448); halved() => 199; set(0, 2, 449); halved() => 200
            set(0, 2, 450); halved() => NONE; pot(1, 0); set(0, 2, 49); halved() => 0; set(0, 2, 50); halved() => NONE
            """);
        edges.of("if AMOUNT of each were half of it (cut) now", """
            thing(0, 1); set(0, 2, 199); halved() => 4; set(0, 2, 200); halved() => 4; set(0, 2, 99); halved() => 0
            thing(0, 1); set(1, 2, 100); halved() => 1; set(1, 2, 199); halved() => 4
            """);
        edges.of("`int halved()`: HALVED. NONE: not by then.", Edges.LIVED + "halved(); pot(1, 999); halved() => 1");
    }

    private static void differs() {
        edges.of("TASTE of the pot, less that of THE IMAGE. NO: there is no IMAGE.", """
            differs() => NO; thing(0, 1); set(0, 2, 500); differs() => NO; back() => NO; differs() => NO; keep()
            differs() => 0; set(0, 2, 599); differs() => 0; set(0, 2, 600); differs() => 1; set(0, 2, 499)
            differs() => -1; set(0, 2, 99999); differs() => 994; set(0, 2, 0); differs() => -5; keep(); differs() => 0
            """);
        edges.of("`int differs()`", Edges.LIVED + "differs() => 7; back(); differs() => 0");
    }

    /** The last of all things is thought of like the others, by its own kind, strength and age. */
    private static void eightThings() {
        edges.of("THINGS, 8 at most", """
            7 x thing(0, 1); thing(3, 9); set(7, 2, 1000); set(7, 3, 4); pot(1, 0); taste() => 188; behind(7, 0, 1) => 188
            behind(7, 1, 0) => 990; behind(7, 1, 1) => 188; behind(0, 2, 2) => 188; tasted(7) => NONE
            steer(99999, 0, 0) => 7; steer(99999, 0, 1) => 1000; steer(99999, 0, 2) => 368; leastPot(7, 990, 1) => 10
            leastPot(7, 991, 1) => NONE; nearest(188) => 0; sheet(0, 0, 1); mark(0, 0, 278); thrown(0, 0) => 7
            thrown(0, 1) => 0; halved() => NONE; keep(); turns(7, 0); set(7, 1, 1); set(7, 2, 0); set(7, 3, 0)
            differs() => -188; back(); told(7, 0) => 3; told(7, 1) => 9; told(7, 2) => 1000; told(7, 3) => 4
            tell(188); tell(990); check(1) => 0
            """);
    }
}
