/** The boundary cases of the document's parts 1 and 2 and of promises 1 to 9, sentence by sentence. */
public final class EdgeThingsTest {
    private static final Due due = new Due();
    private static final Edges edges = new Edges(due);
    private static final String EIGHT = "8 x thing(0, 1)\n";

    public static void main(String[] args) {
        bounds();
        kinds();
        firstValues();
        taste();
        fade();
        wears();
        worth();
        notNamed();
        aDay();
        aDayOfMany();
        draws();
        thing();
        toss();
        told();
        toldBill();
        as();
        turns();
        set();
        deal();
        seed();
        due.end();
    }

    private static void bounds() {
        edges.of("THINGS, 8 at most, numbered from 0", """
            thing(5, 9) => 0; thing(0, 1) => 1; 5 x thing(1, 2); count(0) => 7
            thing(4, 8) => 7; count(0) => 8; thing(0, 1) => FULL; count(0) => 8
            told(7, 0) => 4; told(7, 1) => 8; told(8, 0) => BAD; told(-1, 0) => BAD; told(0, 0) => 5
            """);
        edges.of("STRONG 1 .. 9", """
            thing(0, 0) => BAD; thing(0, -1) => BAD; thing(0, MIN) => BAD; thing(0, 10) => BAD; thing(0, MAX) => BAD
            count(0) => 0; thing(0, 1) => 0; told(0, 1) => 1; thing(0, 9) => 1; told(1, 1) => 9
            set(0, 1, 0) => BAD; set(0, 1, 10) => BAD; told(0, 1) => 1
            set(0, 1, 9) => 1; told(0, 1) => 9; set(0, 1, 1) => 9; told(0, 1) => 1
            """);
        edges.of("AMOUNT 0 .. 99999 (0 at first)", """
            thing(0, 1); told(0, 2) => 0; set(0, 2, -1) => BAD; set(0, 2, 100000) => BAD; told(0, 2) => 0
            set(0, 2, 99999) => 0; told(0, 2) => 99999; set(0, 2, 100000) => BAD; set(0, 2, -1) => BAD
            told(0, 2) => 99999; set(0, 2, 0) => 99999; told(0, 2) => 0
            """);
        edges.of("AGE 0 .. 9999 (days since it was first thrown in; 0)", """
            thing(0, 1); told(0, 3) => 0; toss(0, 100); told(0, 3) => 0; days(1); told(0, 3) => 1
            toss(0, 100); told(0, 3) => 1; days(1); told(0, 3) => 2
            set(0, 3, -1) => BAD; set(0, 3, 10000) => BAD; told(0, 3) => 2
            set(0, 3, 9999) => 2; told(0, 3) => 9999; set(0, 3, 0) => 9999; told(0, 3) => 0
            """);
        edges.of("THE POT is 1 .. 999 (100 at first)", """
            count(2) => 100; pot(0, 0) => BAD; pot(0, -1) => BAD; pot(0, 1000) => BAD; pot(0, MIN) => BAD
            pot(0, MAX) => BAD; count(2) => 100; pot(0, 1) => 100; count(2) => 1; pot(0, 999) => 1; count(2) => 999
            """);
        edges.of("BOWLS 0 .. 999 (20)", """
            count(3) => 20; pot(1, -1) => BAD; pot(1, 1000) => BAD; pot(1, MIN) => BAD; pot(1, MAX) => BAD
            count(3) => 20; pot(1, 0) => 20; count(3) => 0; pot(1, 999) => 0; count(3) => 999
            """);
        edges.of("THE DAY is 0 at first, 9999 at most.", """
            count(1) => 0; 33 x days(300); count(1) => 9900; days(98); count(1) => 9998; days(1); count(1) => 9999
            days(1) => 0; count(1) => 9999; days(300) => 0; count(1) => 9999
            """);
        edges.of("TAKEN, GONE are 0 at first.", "grams(0) => 0; grams(1) => 0; days(1); grams(0) => 0; grams(1) => 0");
    }

    private static void kinds() {
        edges.of("0 THING; 1 BONE, 2 HERB, 5 SALT, under THING; 3 MARROW, under BONE; 4 LEAF, under HERB (all are THINGS)", """
            thing(0, 1); thing(1, 2); thing(2, 3); thing(3, 4); thing(4, 5); thing(5, 6)
            as(0, 0) => 1; as(0, 1) => KIND; as(0, 2) => KIND; as(0, 3) => KIND; as(0, 4) => KIND; as(0, 5) => KIND
            as(1, 0) => 2; as(1, 1) => 2; as(1, 2) => KIND; as(1, 3) => KIND; as(1, 4) => KIND; as(1, 5) => KIND
            as(2, 0) => 3; as(2, 1) => KIND; as(2, 2) => 3; as(2, 3) => KIND; as(2, 4) => KIND; as(2, 5) => KIND
            as(3, 0) => 4; as(3, 1) => 4; as(3, 2) => KIND; as(3, 3) => 4; as(3, 4) => KIND; as(3, 5) => KIND
            as(4, 0) => 5; as(4, 1) => KIND; as(4, 2) => 5; as(4, 3) => KIND; as(4, 4) => 5; as(4, 5) => KIND
            as(5, 0) => 6; as(5, 1) => KIND; as(5, 2) => KIND; as(5, 3) => KIND; as(5, 4) => KIND; as(5, 5) => 6
            """);
        edges.of("of KINDS: 0 THING", """
            thing(-1, 1) => BAD; thing(6, 1) => BAD; thing(MIN, 1) => BAD; thing(MAX, 1) => BAD; count(0) => 0
            thing(0, 1) => 0; thing(5, 1) => 1; told(0, 0) => 0; told(1, 0) => 5
            """);
    }

    private static void firstValues() {
        edges.of("`OldPot()`: As told; no THINGS.", """
            count(0) => 0; count(1) => 0; count(2) => 100; count(3) => 20; count(4) => 0; count(5) => 0; count(6) => 0
            count(7) => 1; count(8) => BAD; grams(0) => 0; grams(1) => 0; grams(2) => 0; taste() => 0; lot() => 0
            why(0) => NONE; why(1) => NONE; why(2) => NONE; told(0, 0) => BAD; toss(0, 1) => BAD; as(0, 0) => BAD
            turns(0, 0) => BAD; set(0, 1, 1) => BAD; behind(0, 0, 0) => BAD; tasted(0) => BAD; leastPot(0, 0, 0) => BAD
            steer(0, 0, 0) => NONE; nearest(0) => 0; halved() => 0; differs() => NO; back() => NO; check(1) => NO
            pour(0) => NOTHING; pour(1) => NOTHING; pour(2) => NOTHING; pour(3) => NOTHING; lay(0, 1, 0) => BAD
            rest(0, 1) => NOTHING; rest(1, 1) => NOTHING; rest(2, 1) => NOTHING; rest(3, 1) => NOTHING
            rest(4, 1) => NOTHING; textTold(0, 0) => BAD; trim(1) => BAD; trim(0) => 0; text() => fault 0; days(1) => 0
            """);
    }

    private static void taste() {
        edges.of("THING: AMOUNT times STRONG / 100.", """
            thing(0, 1); told(0, 4) => 0; set(0, 2, 99); told(0, 4) => 0; set(0, 2, 100); told(0, 4) => 1
            set(0, 2, 199); told(0, 4) => 1; set(0, 2, 200); told(0, 4) => 2
            set(0, 1, 9); set(0, 2, 11); told(0, 4) => 0; set(0, 2, 12); told(0, 4) => 1
            set(0, 2, 99999); told(0, 4) => 8999; set(0, 3, 9999); told(0, 4) => 8999
            """);
        edges.of("BONE: as THING, and AGE, 30 at most, if there is any.", """
            thing(1, 1); set(0, 3, 30); told(0, 4) => 0; set(0, 2, 1); told(0, 4) => 30
            set(0, 3, 29); told(0, 4) => 29; set(0, 3, 31); told(0, 4) => 30; set(0, 3, 9999); told(0, 4) => 30
            set(0, 3, 0); told(0, 4) => 0; set(0, 3, 1); told(0, 4) => 1
            set(0, 2, 99); told(0, 4) => 1; set(0, 2, 100); told(0, 4) => 2
            set(0, 2, 99999); set(0, 1, 9); set(0, 3, 30); told(0, 4) => 9029
            """);
        edges.of("MARROW: twice as BONE.", """
            thing(3, 1); set(0, 3, 7); told(0, 4) => 0; set(0, 2, 1); told(0, 4) => 14; set(0, 3, 0); told(0, 4) => 0
            set(0, 2, 99); told(0, 4) => 0; set(0, 2, 150); told(0, 4) => 2; set(0, 2, 200); told(0, 4) => 4
            set(0, 3, 29); told(0, 4) => 62; set(0, 3, 30); told(0, 4) => 64; set(0, 3, 31); told(0, 4) => 64
            set(0, 2, 99999); set(0, 1, 9); told(0, 4) => 18058
            """);
        edges.of("LEAF: half (cut) of as HERB.", """
            thing(4, 1); told(0, 4) => 0; set(0, 2, 199); told(0, 4) => 0; set(0, 2, 200); told(0, 4) => 1
            set(0, 2, 300); told(0, 4) => 1; set(0, 2, 400); told(0, 4) => 2
            set(0, 2, 1000); set(0, 3, 1); told(0, 4) => 4; set(0, 3, 4); told(0, 4) => 1; set(0, 3, 5); told(0, 4) => 0
            text 'fade 9'; told(0, 4) => 0; text 'fade 8'; told(0, 4) => 1; text 'fade 7'; told(0, 4) => 1
            """);
        edges.of("SALT: twice as THING.", """
            thing(5, 1); told(0, 4) => 0; set(0, 2, 99); told(0, 4) => 0; set(0, 2, 150); told(0, 4) => 2
            set(0, 2, 199); told(0, 4) => 2; set(0, 2, 200); told(0, 4) => 4; set(0, 3, 30); told(0, 4) => 4
            set(0, 1, 9); set(0, 2, 99999); told(0, 4) => 17998
            """);
        edges.of("TASTE of the pot: that of all, together.", """
            taste() => 0; 8 x thing(3, 9); taste() => 0; set(7, 2, 99999); taste() => 17998; set(0, 2, 99999)
            taste() => 35996; set(1, 2, 99999); set(2, 2, 99999); set(3, 2, 99999); set(4, 2, 99999); set(5, 2, 99999)
            set(6, 2, 99999); taste() => 143984; set(0, 3, 30); taste() => 144044
            """);
    }

    private static void fade() {
        edges.of("HERB: as THING, less what fade gives, held within 0 .. that (without a TEXT: AGE times 2, held likewise).", """
            thing(2, 1); told(0, 4) => 0; set(0, 3, 9); told(0, 4) => 0; set(0, 2, 1000); set(0, 3, 0); told(0, 4) => 10
            set(0, 3, 1); told(0, 4) => 8; set(0, 3, 4); told(0, 4) => 2; set(0, 3, 5); told(0, 4) => 0
            set(0, 3, 6); told(0, 4) => 0; set(0, 3, 9999); told(0, 4) => 0
            set(0, 2, 99999); set(0, 1, 9); told(0, 4) => 0; set(0, 3, 4499); told(0, 4) => 1; set(0, 3, 4500)
            told(0, 4) => 0; set(0, 1, 1); set(0, 2, 100); set(0, 3, 0); told(0, 4) => 1; set(0, 3, 1); told(0, 4) => 0
            """);
        edges.of("less what fade gives, held within 0 .. that", """
            thing(2, 1); set(0, 2, 1000); text 'fade 0'; told(0, 4) => 10; text 'fade 9'; told(0, 4) => 1
            text 'fade 10'; told(0, 4) => 0; text 'fade 11'; told(0, 4) => 0; text 'fade 0-1'; told(0, 4) => 10
            text 'fade 1-1'; told(0, 4) => 10; text 'fade 1'; told(0, 4) => 9; text 'fade t'; told(0, 4) => 0
            text 'fade t-1'; told(0, 4) => 1; text 'fade t+1'; told(0, 4) => 0
            text 'fade 4096*4096*128'; told(0, 4) => 10; text 'fade 4096*4096*128-1'; told(0, 4) => 0
            """);
    }

    private static void wears() {
        edges.of("WEARS (what goes of it on a day by itself): THING: 0.", """
            thing(0, 9); thing(5, 9); told(0, 5) => 0; told(1, 5) => 0; set(0, 2, 99999); set(1, 2, 99999)
            told(0, 5) => 0; told(1, 5) => 0
            """);
        edges.of("BONE: AMOUNT / 100.", """
            thing(1, 9); thing(3, 9); told(0, 5) => 0; set(0, 2, 99); told(0, 5) => 0; set(0, 2, 100); told(0, 5) => 1
            set(0, 2, 199); told(0, 5) => 1; set(0, 2, 200); told(0, 5) => 2; set(0, 2, 99999); told(0, 5) => 999
            set(1, 2, 99); told(1, 5) => 0; set(1, 2, 100); told(1, 5) => 1; set(1, 2, 99999); told(1, 5) => 999
            """);
        edges.of("HERB: AMOUNT / 20, and 1 (AMOUNT at most).", """
            thing(2, 9); told(0, 5) => 0; set(0, 2, 1); told(0, 5) => 1; set(0, 2, 2); told(0, 5) => 1
            set(0, 2, 19); told(0, 5) => 1; set(0, 2, 20); told(0, 5) => 2; set(0, 2, 39); told(0, 5) => 2
            set(0, 2, 40); told(0, 5) => 3; set(0, 2, 99999); told(0, 5) => 5000
            """);
        edges.of("LEAF: twice as HERB (AMOUNT at most).", """
            thing(4, 9); told(0, 5) => 0; set(0, 2, 1); told(0, 5) => 1; set(0, 2, 2); told(0, 5) => 2
            set(0, 2, 3); told(0, 5) => 2; set(0, 2, 19); told(0, 5) => 2; set(0, 2, 20); told(0, 5) => 4
            set(0, 2, 39); told(0, 5) => 4; set(0, 2, 40); told(0, 5) => 6; set(0, 2, 99999); told(0, 5) => 10000
            """);
    }

    private static void worth() {
        edges.of("WORTH: THING: STRONG. BONE: as THING, and 9. MARROW: twice as BONE. HERB: 40 less STRONG. LEAF: as HERB, less 3. SALT: 60.", """
            thing(0, 1); told(0, 6) => 1; turns(0, 1); told(0, 6) => 10; turns(0, 3); told(0, 6) => 20
            turns(0, 2); told(0, 6) => 39; turns(0, 4); told(0, 6) => 36; turns(0, 5); told(0, 6) => 60
            set(0, 1, 9); told(0, 6) => 60; turns(0, 4); told(0, 6) => 28; turns(0, 2); told(0, 6) => 31
            turns(0, 3); told(0, 6) => 36; turns(0, 1); told(0, 6) => 18; turns(0, 0); told(0, 6) => 9
            """);
    }

    private static void notNamed() {
        edges.of("(A KIND that is not named does as the one above it.)", """
            thing(3, 1); set(0, 2, 99); told(0, 5) => 0; set(0, 2, 100); told(0, 5) => 1; set(0, 2, 99999); told(0, 5) => 999
            turns(0, 5); told(0, 5) => 0; set(0, 2, 1); told(0, 5) => 0; pot(1, 0); set(0, 2, 250); days(1)
            told(0, 2) => 250; turns(0, 3); days(1); told(0, 2) => 248; grams(1) => 2
            """);
    }

    private static void aDay() {
        edges.of("AMOUNT times BOWLS / THE POT (cut; all of it, if BOWLS are THE POT or more) is TAKEN.", """
            thing(0, 1); set(0, 2, 4); days(1); told(0, 2) => 4; grams(0) => 0; set(0, 2, 5); days(1); told(0, 2) => 4
            grams(0) => 1; set(0, 2, 9); days(1); told(0, 2) => 8; set(0, 2, 10); days(1); told(0, 2) => 8; grams(0) => 4
            pot(1, 0); set(0, 2, 99999); days(1); told(0, 2) => 99999; grams(0) => 4
            """);
        edges.of("all of it, if BOWLS are THE POT or more", """
            thing(0, 1); pot(1, 99); set(0, 2, 100); days(1); told(0, 2) => 1; grams(0) => 99
            pot(1, 100); set(0, 2, 100); days(1); told(0, 2) => 0; grams(0) => 199
            pot(1, 101); set(0, 2, 100); days(1); told(0, 2) => 0; grams(0) => 299
            pot(0, 1); pot(1, 1); set(0, 2, 1); days(1); told(0, 2) => 0; grams(0) => 300
            pot(1, 0); set(0, 2, 7); days(1); told(0, 2) => 7; pot(1, 999); days(1); told(0, 2) => 0; grams(0) => 307
            """);
        edges.of("of each, by numbers, AMOUNT times BOWLS / THE POT", """
            thing(0, 9); pot(0, 999); pot(1, 998); set(0, 2, 99999); days(1); told(0, 2) => 101; grams(0) => 99898
            pot(1, 999); set(0, 2, 99999); days(1); told(0, 2) => 0; grams(0) => 199897
            pot(1, 1); set(0, 2, 99999); days(1); told(0, 2) => 99899; set(0, 2, 998); days(1); told(0, 2) => 998
            set(0, 2, 999); days(1); told(0, 2) => 998
            """);
        edges.of("(2) Of each, by numbers, what it WEARS is GONE.", """
            thing(2, 1); set(0, 2, 1000); days(1); told(0, 2) => 759; grams(0) => 200; grams(1) => 41
            pot(1, 100); set(0, 2, 1000); days(1); told(0, 2) => 0; grams(0) => 1200; grams(1) => 41
            pot(1, 0); set(0, 2, 1); days(1); told(0, 2) => 0; grams(1) => 42; days(1); grams(1) => 42
            """);
        edges.of("(3) AGE of each of which there is some AMOUNT left is 1 more (9999 at most); of one of which there is none it is 0.", """
            thing(0, 1); thing(0, 1); pot(1, 0); set(0, 2, 1); set(1, 3, 50); days(1); told(0, 3) => 1; told(1, 3) => 0
            set(0, 3, 9997); days(1); told(0, 3) => 9998; days(1); told(0, 3) => 9999; days(1); told(0, 3) => 9999
            pot(1, 100); days(1); told(0, 3) => 0; turns(0, 2); pot(1, 0); set(0, 2, 1); set(0, 3, 8); days(1)
            told(0, 2) => 0; told(0, 3) => 0
            """);
        edges.of("(4) THE DAY is 1 more.", "days(1); count(1) => 1; days(1); count(1) => 2; days(300); count(1) => 302");
    }

    private static void aDayOfMany() {
        edges.of("======== 2 A DAY:", """
            thing(0, 5); thing(1, 5); thing(2, 5); thing(3, 5); thing(4, 5); thing(5, 5); thing(0, 1); thing(4, 1)
            set(0, 2, 1000); set(1, 2, 1000); set(2, 2, 1000); set(3, 2, 1000); set(4, 2, 1000); set(5, 2, 1000)
            set(7, 2, 2); days(1) => 291; told(0, 2) => 800; told(1, 2) => 792; told(2, 2) => 759; told(3, 2) => 792
            told(4, 2) => 718; told(5, 2) => 800; told(6, 2) => 0; told(7, 2) => 0
            told(5, 3) => 1; told(6, 3) => 0; told(7, 3) => 0; grams(0) => 1200; grams(1) => 141; grams(2) => 4661
            """);
    }

    private static void draws() {
        edges.of("z is told (1 at first).", "count(7) => 1; seed(2) => 1; count(7) => 2");
        edges.of("z becomes z * 1103515245 + 12345 (an int); it gives z >>> 8", """
            deal(1) => 1; count(7) => 662824084; told(0, 0) => 2; told(0, 1) => 3; told(0, 2) => 156
            seed(0); deal(1); count(7) => -1492899873; told(1, 0) => 0; told(1, 1) => 4; told(1, 2) => 575
            seed(-1); deal(1); count(7) => 646343466; told(2, 0) => 1; told(2, 1) => 4; told(2, 2) => 779
            seed(MAX); deal(1); count(7) => -1501140182; told(3, 0) => 5; told(3, 1) => 9; told(3, 2) => 387
            seed(MIN); deal(1); count(7) => 654583775; told(4, 0) => 2; told(4, 1) => 8; told(4, 2) => 967
            seed(18); deal(1); count(7) => -1344574311; told(5, 0) => 3; told(5, 1) => 6; told(5, 2) => 972
            """);
        edges.of("KIND the rest of a draw by 6, STRONG 1 and that of one more by 9, AMOUNT that of one more by 1000.", """
            seed(47845); deal(1); told(0, 0) => 5; told(0, 1) => 9; told(0, 2) => 999; told(0, 3) => 0
            seed(15276); deal(1); told(1, 0) => 0; told(1, 1) => 1; told(1, 2) => 0; told(1, 3) => 0
            """);
    }

    private static void thing() {
        edges.of("One more THING: its number. BAD; FULL.", EIGHT + """
            thing(-1, 1) => BAD; thing(6, 1) => BAD; thing(0, 0) => BAD; thing(0, 10) => BAD; thing(6, 10) => BAD
            thing(0, 1) => FULL; thing(5, 9) => FULL; count(0) => 8
            """);
        edges.of("`int thing(int kind, int strong)`", Edges.LIVED + """
            thing(-1, 1) => BAD; thing(6, 1) => BAD; thing(0, 0) => BAD; thing(0, 10) => BAD
            thing(0, 1) => 6; thing(0, 1) => 7; thing(0, 1) => FULL
            """);
    }

    private static void toss() {
        edges.of("So much (1 .. 9999) of a THING is thrown in", """
            toss(0, 1) => BAD; thing(0, 1); toss(0, 0) => BAD; toss(0, -1) => BAD; toss(0, MIN) => BAD
            toss(0, 10000) => BAD; toss(0, MAX) => BAD; told(0, 2) => 0; toss(0, 1) => 1; toss(0, 9999) => 10000
            toss(1, 1) => BAD; toss(-1, 1) => BAD; toss(8, 1) => BAD; toss(MIN, 1) => BAD; toss(MAX, 1) => BAD
            """);
        edges.of("as far as there is room (99999): AMOUNT then. BAD.", Edges.LIVED + """
            set(0, 2, 90000); toss(0, 9998) => 99998; toss(0, 1) => 99999; toss(0, 1) => 99999; toss(0, 9999) => 99999
            toss(0, 10000) => BAD; told(0, 2) => 99999; set(0, 2, 99998); toss(0, 2) => 99999; set(0, 2, 90000)
            toss(0, 9999) => 99999; set(0, 2, 90001); toss(0, 9999) => 99999; toss(6, 1) => BAD; toss(5, 0) => BAD
            set(0, 2, 0); toss(0, 1) => 1; told(0, 3) => 3
            """);
    }

    private static void told() {
        edges.of("Of a THING: what 0 KIND, 1 STRONG, 2 AMOUNT, 3 AGE, 4 TASTE, 5 WEARS, 6 WORTH, 7 its share", Edges.LIVED + """
            told(0, -1) => BAD; told(0, 9) => BAD; told(0, MIN) => BAD; told(0, MAX) => BAD; told(-1, 0) => BAD
            told(6, 0) => BAD; told(6, 8) => BAD; told(5, 0) => 5; told(4, 0) => 4; told(4, 1) => 8
            told(0, 2) => 512; told(0, 3) => 3; told(0, 4) => 50; told(0, 5) => 0; told(0, 6) => 60; told(0, 8) => 110
            """);
        edges.of("7 its share (10000 times AMOUNT / that of all, as a long; 0 without)", """
            8 x thing(0, 1); told(0, 7) => 0; set(0, 2, 1); told(0, 7) => 10000; told(1, 7) => 0
            set(1, 2, 2); told(0, 7) => 3333; told(1, 7) => 6666; set(1, 2, 9999); told(0, 7) => 1; told(1, 7) => 9999
            set(1, 2, 10000); told(0, 7) => 0; told(1, 7) => 9999; set(0, 2, 99999); set(1, 2, 99999); told(0, 7) => 5000
            set(2, 2, 99999); set(3, 2, 99999); set(4, 2, 99999); set(5, 2, 99999); set(6, 2, 99999); set(7, 2, 99999)
            told(7, 7) => 1250; set(7, 2, 0); told(7, 7) => 0; told(6, 7) => 1428
            """);
    }

    private static void toldBill() {
        edges.of("8 what bill gives. BAD.", Edges.LIVED + """
            told(5, 8) => 66; told(6, 8) => BAD; told(-1, 8) => BAD; told(0, 9) => BAD; trim(0); text 'bill 0-w'; told(5, 8) => -60
            text 'bill 9999*9999*22'; told(5, 8) => -2095407274; text 'bill'; told(5, 8) => -2095407274; told(0, -1) => BAD
            """);
    }

    private static void as() {
        edges.of("A THING as one of a KIND: STRONG.", """
            as(0, 0) => BAD; thing(4, 9); as(0, 0) => 9; as(0, 2) => 9; as(0, 4) => 9; as(0, 3) => KIND; as(1, 0) => BAD
            turns(0, 2); as(0, 4) => KIND; set(0, 1, 1); as(0, 2) => 1
            """);
        edges.of("BAD: thing, kind; KIND: it is not of that KIND, nor of one under it.", Edges.LIVED + """
            as(-1, 0) => BAD; as(6, 0) => BAD; as(MIN, 0) => BAD; as(MAX, 0) => BAD; as(0, -1) => BAD; as(0, 6) => BAD
            as(0, MIN) => BAD; as(0, MAX) => BAD; as(6, 6) => BAD; as(5, 0) => 3; as(5, 5) => 3; as(5, 4) => KIND
            as(0, 5) => 5; as(0, 0) => 5; as(3, 1) => 2; as(1, 3) => KIND
            """);
    }

    private static void turns() {
        edges.of("A THING is of another KIND from now on: what it was. BAD.", Edges.LIVED + """
            turns(-1, 0) => BAD; turns(6, 0) => BAD; turns(MAX, 0) => BAD; turns(MIN, 0) => BAD; turns(0, -1) => BAD
            turns(0, 6) => BAD; turns(0, MIN) => BAD; turns(0, MAX) => BAD; told(0, 0) => 5
            turns(0, 0) => 5; turns(0, 5) => 0; turns(0, 5) => 5; told(0, 0) => 5; turns(5, 1) => 5; told(5, 0) => 1
            told(0, 1) => 5; told(0, 2) => 512; told(0, 3) => 3
            """);
    }

    private static void set() {
        edges.of("STRONG, AMOUNT, AGE (what 1 .. 3) of a THING becomes v: what it was. BAD.", Edges.LIVED + """
            set(0, 0, 1) => BAD; set(0, 4, 1) => BAD; set(0, -1, 1) => BAD; set(0, MIN, 1) => BAD; set(0, MAX, 1) => BAD
            set(-1, 1, 1) => BAD; set(6, 1, 1) => BAD; set(6, 2, 1) => BAD; set(6, 3, 1) => BAD; set(8, 1, 1) => BAD
            set(0, 1, 0) => BAD; set(0, 1, 10) => BAD; set(0, 1, MIN) => BAD; set(0, 1, MAX) => BAD
            set(0, 2, -1) => BAD; set(0, 2, 100000) => BAD; set(0, 2, MIN) => BAD; set(0, 2, MAX) => BAD
            set(0, 3, -1) => BAD; set(0, 3, 10000) => BAD; set(0, 3, MIN) => BAD; set(0, 3, MAX) => BAD
            told(0, 0) => 5; told(0, 1) => 5; told(0, 2) => 512; told(0, 3) => 3
            set(5, 1, 9) => 3; set(5, 1, 1) => 9; set(5, 2, 99999) => 128; set(5, 2, 0) => 99999
            set(5, 3, 9999) => 3; set(5, 3, 0) => 9999; told(5, 0) => 5; told(5, 1) => 1; told(5, 2) => 0; told(5, 3) => 0
            """);
    }

    private static void deal() {
        edges.of("THINGS are drawn, n (1 .. 8) of them", Edges.LIVED + """
            deal(0) => BAD; deal(-1) => BAD; deal(9) => BAD; deal(MIN) => BAD; deal(MAX) => BAD; count(7) => -9
            deal(1) => 1; count(0) => 7
            """);
        edges.of("as many as there is room for (no draws for others): how many came. BAD.", """
            deal(8) => 8; count(0) => 8; deal(1) => 0; deal(8) => 0; deal(9) => BAD; deal(0) => BAD; count(0) => 8
            """);
        edges.of("(no draws for others)", """
            7 x thing(0, 1); deal(2) => 1; count(7) => 662824084; count(0) => 8; deal(2) => 0; count(7) => 662824084
            """);
        edges.of("how many came", "6 x thing(0, 1); deal(1) => 1; deal(1) => 1; deal(1) => 0; count(0) => 8");
    }

    private static void seed() {
        edges.of("z becomes v: what it was.", """
            seed(MAX) => 1; count(7) => MAX; seed(MIN) => MAX; count(7) => MIN; seed(0) => MIN; seed(BAD) => 0
            seed(5) => BAD; seed(-1) => 5; count(7) => -1
            """);
    }
}
