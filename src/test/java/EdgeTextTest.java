/** The boundary cases of the document's part 4 and of promises 23 to 27, sentence by sentence. */
public final class EdgeTextTest {
    private static final Due due = new Due();
    private static final Edges edges = new Edges(due);
    /** A sum of 95 bytes. */
    private static final String ONES = "lot 1" + "+1".repeat(45);
    private static final String FOURTEEN = "text 'lot d+7'\n".repeat(14);

    public static void main(String[] args) {
        howMany();
        usedUp();
        keys();
        numbers();
        names();
        oneLetter();
        withoutText();
        words();
        blanks();
        grammar();
        faultAtWords();
        faultTooDeep();
        faultAtTheEnd();
        whatTextsGive();
        toldLast();
        feed();
        trim();
        text();
        textTold();
        why();
        due.end();
    }

    private static void howMany() {
        edges.of("TEXTS, 14 at most, numbered from 0", """
            count(4) => 0; text 'lot 0' => 0; text 'lot 1' => 1; text 'lot 2' => 2; text 'lot 3' => 3; text 'lot 4' => 4
            text 'bill 5' => 5; text 'bill 6' => 6; text 'bill 7' => 7; text 'bill 8' => 8; text 'bill 9' => 9
            text 'fade 10' => 10; text 'fade 11' => 11; text 'fade 12' => 12; count(4) => 13; text 'fade 13' => 13
            count(4) => 14; text 'fade 14' => FULL; text 'lot 15' => FULL; count(4) => 14
            why(0) => 13; why(1) => 9; why(2) => 4; lot() => 4
            """);
    }

    private static void usedUp() {
        edges.of("THE TAPE (96 bytes at most; an act that reads it uses it up, whatever it answers)", """
            tape 'lot d'; count(6) => 5; text() => 0; count(6) => 0; tape 'lot dd'; count(6) => 6; text() => fault 4
            count(6) => 0; text() => fault 0; count(6) => 0; tape 'bill 1'; text() => 1
            """);
        edges.of("uses it up, whatever it answers", FOURTEEN + """
            tape 'lot d'; count(6) => 5; text() => FULL; count(6) => 0; text() => fault 0
            """);
    }

    private static void keys() {
        edges.of("KEY E. KEY: fade | bill | lot.", """
            text 'fade 1' => 0; text 'bill 1' => 1; text 'lot 1' => 2; text 'fad 1' => fault 0; text 'fades 1' => fault 0
            text 'bil 1' => fault 0; text 'bills 1' => fault 0; text 'lo 1' => fault 0; text 'lots 1' => fault 0
            text 'l 1' => fault 0; text 'Lot 1' => fault 0; text 'lOt 1' => fault 0; text '1' => fault 0
            text '(lot 1)' => fault 0; text 'lot fade 1' => fault 4; text 'lot lot' => fault 4; text 'lot 1 lot 1' => fault 6
            text 'fadea' => fault 0; text 'jade 1' => fault 0; text 'kill 1' => fault 0; text 'dot 1' => fault 0
            text 'face 1' => fault 0; text 'ball 1' => fault 0; text 'let 1' => fault 0
            """);
    }

    private static void numbers() {
        edges.of("NUMBER (1 to 4 digits)", """
            text 'lot 0' => 0; lot() => 0; text 'lot 9' => 1; lot() => 9; text 'lot 9999' => 2; lot() => 9999
            text 'lot 0000' => 3; lot() => 0; text 'lot 0010' => 4; lot() => 10; text 'lot 1000' => 5; lot() => 1000
            text 'lot 10000' => fault 4; text 'lot 00001' => fault 4; text 'lot 0+12345' => fault 6
            text 'lot 1234567890' => fault 4; text 'lot 1234 5' => fault 9; text 'lot 123456789d' => fault 4
            """);
        edges.of("PIECE: NUMBER", "text 'lot -1' => fault 4; text 'lot +1' => fault 4; text 'lot 1.5' => fault 5; lot() => 0");
    }

    private static void names() {
        edges.of("of fade a AMOUNT, g AGE, t what it would be as THING", """
            text 'fade a' => 0; text 'fade g' => 1; text 'fade t' => 2; text 'fade w' => fault 5; text 'fade d' => fault 5
            text 'fade b' => fault 5; text 'fade f' => fault 5; text 'fade h' => fault 5; text 'fade s' => fault 5
            text 'fade u' => fault 5; text 'fade z' => fault 5; text 'fade A' => fault 5; text 'fade ag' => fault 5
            thing(2, 1); set(0, 2, 1000); set(0, 3, 3); text 'fade a-995'; told(0, 4) => 5; text 'fade g'
            told(0, 4) => 7; text 'fade t-1'; told(0, 4) => 1; turns(0, 4); told(0, 4) => 0; text 'fade t-2'
            told(0, 4) => 1
            """);
        edges.of("of bill t TASTE of it, w WORTH", """
            text 'bill t' => 0; text 'bill w' => 1; text 'bill a' => fault 5; text 'bill g' => fault 5
            text 'bill d' => fault 5; text 'bill s' => fault 5; text 'bill u' => fault 5; text 'bill v' => fault 5
            text 'bill x' => fault 5; text 'bill tw' => fault 5; thing(5, 1); set(0, 2, 150); told(0, 8) => 60
            text 'bill t'; told(0, 8) => 2
            """);
        edges.of("of lot d THE DAY, t TASTE of the pot", """
            text 'lot d' => 0; text 'lot t' => 1; text 'lot w' => fault 4; text 'lot a' => fault 4; text 'lot g' => fault 4
            text 'lot c' => fault 4; text 'lot e' => fault 4; text 'lot s' => fault 4; text 'lot u' => fault 4
            text 'lot dt' => fault 4; text 'lot td' => fault 4; text 'lot z' => fault 4
            """);
    }

    private static void oneLetter() {
        edges.of("NAMES, each one letter", """
            text 'fade a' => 0; text 'fade aa' => fault 5; text 'fade gt' => fault 5; text 'bill ww' => fault 5
            text 'bill t t' => fault 7; text 'lot day' => fault 4; text 'lot d' => 1; text 'lot 1+dd' => fault 6
            """);
    }

    private static void withoutText() {
        edges.of("(what bill gives for a THING is told by told(); without a TEXT: TASTE)", """
            thing(5, 1); told(0, 8) => 0; set(0, 2, 150); told(0, 8) => 2; text 'lot 9'; text 'fade 9'; told(0, 8) => 2
            text 'bill'; told(0, 8) => 2; text 'bill 9'; told(0, 8) => 9; thing(2, 1); set(1, 2, 500); set(1, 3, 1)
            told(1, 8) => 9
            """);
        edges.of("without a TEXT: TASTE", "thing(0, 1); told(0, 8) => 0; text 'bill 9' => 0; told(0, 8) => 9; why(1) => 0");
        edges.of("without a TEXT: 0", "lot() => 0; text 'lot 9' => 0; lot() => 9; why(2) => 0");
        edges.of("without a TEXT: AGE times 2", """
            thing(2, 1); set(0, 2, 500); set(0, 3, 1); told(0, 4) => 3; text 'fade 4' => 0; told(0, 4) => 1; why(0) => 0
            """);
        edges.of("(without a TEXT: AGE times 2, held likewise)", """
            thing(2, 1); set(0, 2, 500); set(0, 3, 1); told(0, 4) => 3; text 'lot 0'; text 'bill 0'; text 'fade'
            told(0, 4) => 3; text 'fade 0'; told(0, 4) => 5
            """);
    }

    /** The bytes right below and above the letters and the digits. */
    private static void words() {
        edges.of("A word is a row of letters a .. z, or of digits, as long as it goes; any other byte is a sign by itself.", """
            text 'lot `' => fault 4; text 'lot {' => fault 4; text 'lot a' => fault 4; text 'lot z' => fault 4
            text 'lot /' => fault 4; text 'lot :' => fault 4; text 'lot 0' => 0; text 'lot 9' => 1; text 'lot d/2' => 2
            text 'lot d:2' => fault 5; text 'lot d`' => fault 5; text 'lot d{' => fault 5; text 'lot dz' => fault 4
            text 'lot da' => fault 4; text 'lot d@' => fault 5; text 'lot dA' => fault 5; text 'lot d[' => fault 5
            text 'lot 1a' => fault 5; text 'lot 1z' => fault 5; text 'lot d0' => fault 5; text 'lot d9' => fault 5
            text 'lot d\u00e4' => fault 5; text 'lot d\u00ff' => fault 5; text 'lot d\u0080' => fault 5
            text 'lot d\u007f' => fault 5; text 'lot\u00e4' => fault 3; text 'l\u00efot d' => fault 0; text 'LOT' => fault 0
            text 'lot \u00b1' => fault 4; text 'lot d\u00ab1' => fault 5; text 'lot \u00e4' => fault 4
            """);
        edges.of("as long as it goes", "text 'lotd' => fault 0; text 'lotlot d' => fault 0; text 'lot ddd' => fault 4");
    }

    private static void blanks() {
        edges.of("Between words and signs, and at the ends, there may be blanks (byte 32)", """
            text 'lot d' => 0; text ' lot d ' => 1; text '   lot   d   ' => 2; text 'lot(d)' => 3; text 'lot!d' => 4
            text 'lot ( d )' => 5; text 'lot ! ! d' => 6; text 'lot d+d' => 7; text 'lot d + d' => 8; text 'lot 1<2' => 9
            text 'lot ( 1 < 2 ) & d ' => 10; text '   ' => fault 3; text 'l ot d' => fault 0; text 'lot 1 2' => fault 6
            text 'lot\u001fd' => fault 3; text 'lot\td' => fault 3; text 'lot d\t' => fault 5; text '\tlot d' => fault 0
            text 'lot d\0' => fault 5; text 'lot\u00a0d' => fault 3; text 'lot d\u00a0' => fault 5
            """);
        edges.of("a word right behind another one needs one", """
            text 'lot5' => fault 3; text 'lot 5d' => fault 5; text 'lot d5' => fault 5; text 'fade7' => fault 4
            text 'bill0' => fault 4; text 'lot 5' => 0; text 'lot(5)' => 1; text 'lot (d)d' => fault 7
            text 'lot 12345d' => fault 4; text 'lot 1234d' => fault 8; text 'lot12345' => fault 3; text 'lot5 ' => fault 3
            """);
    }

    private static void grammar() {
        edges.of("E, the loosest first", """
            text 'lot 0&0|1'; lot() => 1; text 'lot 1|0&0'; lot() => 1; text 'lot 2=1&0'; lot() => 0; text 'lot 0&0=0'
            lot() => 0; text 'lot 1<1+1'; lot() => 1; text 'lot 2+1>2'; lot() => 1; text 'lot 2+3*4'; lot() => 14
            text 'lot 2*3+4'; lot() => 10; text 'lot 9-8/2'; lot() => 5; text 'lot !0*3'; lot() => 3; text 'lot !1+1'
            lot() => 1; text 'lot !0=0'; lot() => 0
            """);
        edges.of("OR: AND { | AND }; AND: TEST { & TEST }; TEST: SUM [ (< | = | >) SUM ]", """
            text 'lot 1|' => fault 6; text 'lot |1' => fault 4; text 'lot 1||1' => fault 6; text 'lot 1&' => fault 6
            text 'lot &1' => fault 4; text 'lot 1&&1' => fault 6; text 'lot 1<2<3' => fault 7; text 'lot 1=2=3' => fault 7
            text 'lot 1>2>3' => fault 7; text 'lot 1<2>3' => fault 7; text 'lot 1<=2' => fault 6; text 'lot 1==2' => fault 6
            text 'lot <1' => fault 4; text 'lot 1<' => fault 6; text 'lot 1=' => fault 6; text 'lot 1>' => fault 6
            text 'lot 1<2&2<3|3<4' => 0; lot() => 1; text 'lot (1<2)<3' => 1; lot() => 1; text 'lot 0&0|1'; lot() => 1
            text 'lot 1|1&0'; lot() => 1; text 'lot 1|0|0'; lot() => 1; text 'lot 1&1&0'; lot() => 0
            text 'lot 0=1|1'; lot() => 1; text 'lot 0&1=0'; lot() => 0; text 'lot 2<1+2'; lot() => 1
            """);
        edges.of("SUM: TERM { (+ | -) TERM }; TERM: PIECE { (* | /) PIECE }; PIECE: NUMBER (1 to 4 digits) | NAME | ! PIECE | ( E ).", """
            text 'lot 1+' => fault 6; text 'lot 1-' => fault 6; text 'lot 1+-1' => fault 6; text 'lot 1--1' => fault 6
            text 'lot 1*' => fault 6; text 'lot 1/' => fault 6; text 'lot *1' => fault 4; text 'lot /1' => fault 4
            text 'lot 1**2' => fault 6; text 'lot 1*/2' => fault 6; text 'lot !' => fault 5; text 'lot !+1' => fault 5
            text 'lot 1!' => fault 5; text 'lot 1!2' => fault 5; text 'lot (' => fault 5; text 'lot ()' => fault 5
            text 'lot (1' => fault 6; text 'lot (1))' => fault 7; text 'lot )' => fault 4; text 'lot 1)' => fault 5
            text 'lot (1)(2)' => fault 7; text 'lot (1)2' => fault 7; text 'lot 1(2)' => fault 5; text 'lot !)' => fault 5
            text 'lot (lot 1)' => fault 5; text 'lot 7-2-1' => 0; lot() => 4; text 'lot 7-(2-1)'; lot() => 6
            text 'lot 8/4/2'; lot() => 1; text 'lot 8/(4/2)'; lot() => 4; text 'lot 1+2*3'; lot() => 7
            text 'lot !1+1'; lot() => 1; text 'lot !(1-1)*5'; lot() => 5; text 'lot 9/2*2'; lot() => 8
            """);
    }

    private static void faultAtWords() {
        edges.of("FAULT: the first byte of the first word or sign with which no TEXT goes on", """
            text 'xyz' => fault 0; text '  xyz' => fault 2; text 'lot xyz' => fault 4; text 'lot   xyz' => fault 6
            text 'lot 1 + xyz' => fault 8; text 'lot 1 xyz !!' => fault 6; text 'lot 1 ; 2 ; 3' => fault 6
            text 'lot ?' => fault 4; text 'lot (1 ?' => fault 7; text 'lot (1 2)' => fault 7; text 'lot (1 < 2 < 3)' => fault 11
            text 'lot 1 ) xyz' => fault 6; count(4) => 0
            """);
        edges.of("(a word that needs a blank ahead of it, a NUMBER of more than 4 digits,", """
            text 'lot d9' => fault 5; text 'lot 9d' => fault 5; text 'lot 99999' => fault 4; text 'lot 9999' => 0
            text 'lot d+99999' => fault 6; text 'lot (99999)' => fault 5; text 'lot !99999' => fault 5
            text 'fade99999' => fault 4; text 'fade 9d' => fault 6; text 'bill 9t' => fault 6; count(4) => 1
            """);
    }

    private static void faultTooDeep() {
        edges.of("the ninth ( that would be open within others", """
            text 'lot (((((((d)))))))' => 0; text 'lot ((((((((d))))))))' => 1; text 'lot (((((((((d)))))))))' => fault 12
            text 'lot (((((((((' => fault 12; text 'lot ((((((((' => fault 12; text 'lot ((((((((+' => fault 12
            text 'lot ((((((((d))))))))+((((((((d))))))))' => 2; text 'lot ((((((((d))))))))+(((((((((d' => fault 30
            text 'lot (((((((d+(d)+(d)+(d))))))))' => 3; text 'lot (((((((d+(d)+((d' => fault 18
            text 'lot (d)+(d)+(d)+(d)+(d)+(d)+(d)+(d)+(d)+(d)' => 4; text 'lot ((((((((d)))))))' => fault 20
            """);
        edges.of("the ninth ! likewise, each by itself)", """
            text 'lot !!!!!!!d' => 0; text 'lot !!!!!!!!d' => 1; text 'lot !!!!!!!!!d' => fault 12
            text 'lot !!!!!!!!!' => fault 12; text 'lot !!!!!!!!' => fault 12; text 'lot !!!!!!!!d+!!!!!!!!d' => 2
            text 'lot !!!!!!!!d+!!!!!!!!!d' => fault 22; text 'lot !!!!!!!!(d)' => 3; text 'lot !!!!!!!!(!d)' => fault 13
            text 'lot !(!(!(!(!(!(!(!(d))))))))' => 4; text 'lot !(!(!(!(!(!(!(!(!d))))))))' => fault 20
            text 'lot !(!(!(!(!(!(!(!((d' => fault 20; text 'lot ((((((((!!!!!!!!d))))))))' => 5
            text 'lot !!!!!!!!((((((((d))))))))' => 6; text 'lot ((((((((!!!!!!!!!d' => fault 20
            text 'lot !!!!!!!!(((((((((d' => fault 20; text 'lot !d+!d+!d+!d+!d+!d+!d+!d+!d+!d' => 7
            text 'lot !(d)+!(d+!!!!!!!d)' => 8; text 'lot !(d)+!(d+!!!!!!!!d)' => fault 20
            """);
    }

    private static void faultAtTheEnd() {
        edges.of("the end (the place behind the last byte), if it comes too soon.", """
            text() => fault 0; text '' => fault 0; text ' ' => fault 1; text 'lot' => fault 3; text 'lot ' => fault 4
            text 'lot     ' => fault 8; text 'lot 1+' => fault 6; text 'lot 1+ ' => fault 7; text 'lot (1' => fault 6
            text 'lot (1  ' => fault 8; text 'lot !' => fault 5; text 'lot (' => fault 5; text 'bill' => fault 4
            8 x feed(0x20202020, 0x20202020, 0x20202020); text() => fault 96; count(4) => 0
            """);
        edges.of("(96 bytes at most;", """
            tape '46 ones+'; count(6) => 96; text() => fault 96; count(4) => 0; tape '46 ones '; count(6) => 96; text() => 0
            lot() => 46; tape '46 ones'; count(6) => 95; text() => 1; tape ' 46 ones'; text() => 2; tape '46 ones2'
            text() => 3; lot() => 57; tape '46 onesd'; text() => fault 95
            """.replace("46 ones", ONES));
    }

    private static void whatTextsGive() {
        edges.of("Ints wrap; / is 0 by 0", """
            text 'lot 4096*4096*64*2-1'; lot() => MAX; text 'lot 4096*4096*64*2'; lot() => MIN; text 'lot 4096*4096*256'
            lot() => 0; text 'lot 0-4096*4096*128-1'; lot() => MAX; text 'lot 9999*9999*9999'; lot() => -1027349969
            text 'lot 4096*4096*128/(0-1)'; lot() => MIN; text 'lot 7/0'; lot() => 0; text 'lot 0/0'; lot() => 0
            text 'lot (0-7)/(3-3)+5'; lot() => 5; text 'lot 0/7'; lot() => 0; text 'lot 4096*4096*128/0'; lot() => 0
            """);
        edges.of("All numbers are whole; / cuts towards 0.", """
            text 'lot 7/2'; lot() => 3; text 'lot (0-7)/2'; lot() => -3; text 'lot 7/(0-2)'; lot() => -3
            text 'lot (0-7)/(0-2)'; lot() => 3; text 'lot (0-1)/2'; lot() => 0; text 'lot 1/2'; lot() => 0
            text 'lot 2/2'; lot() => 1
            """);
        edges.of("tests, & | ! give 1 or 0 (what is not 0 is true; both sides are worked out)", """
            text 'lot 1<2'; lot() => 1; text 'lot 2<2'; lot() => 0; text 'lot 3>2'; lot() => 1; text 'lot 2>2'; lot() => 0
            text 'lot 2=2'; lot() => 1; text 'lot 2=3'; lot() => 0; text 'lot 5&3'; lot() => 1; text 'lot 5&0'; lot() => 0
            text 'lot 0&5'; lot() => 0; text 'lot 4|2'; lot() => 1; text 'lot 0|0'; lot() => 0; text 'lot 0|2'; lot() => 1
            text 'lot 2|0'; lot() => 1; text 'lot !2'; lot() => 0
            """);
        edges.of("(what is not 0 is true;", """
            text 'lot !(0-1)'; lot() => 0; text 'lot !!(0-1)'; lot() => 1; text 'lot !0'; lot() => 1
            text 'lot (0-1)&1'; lot() => 1; text 'lot 0|(0-1)'; lot() => 1; text 'lot 2&4'; lot() => 1
            text 'lot (0-1)<0'; lot() => 1; text 'lot (0-1)>0'; lot() => 0; text 'lot 4096*4096*128<0'; lot() => 1
            """);
    }

    private static void toldLast() {
        edges.of("Of a KEY that TEXT counts that was told last.", """
            text 'lot 1'; lot() => 1; text 'lot 2'; lot() => 2; text 'lot 2 2'; lot() => 2; text 'bill 3'; lot() => 2
            why(2) => 1; why(1) => 2; text 'lot 1'; lot() => 1; why(2) => 3
            """);
    }

    private static void feed() {
        edges.of("Twelve bytes come to THE TAPE, the highest of each number first: how many it has.", """
            feed(0x6c6f7420, 0x642b3120, 0x2a203720) => 12; text() => 0; lot() => 7; feed(0, 0, 0) => 12
            feed(-1, MIN, MAX) => 24; text() => fault 0
            """);
        edges.of("FULL: it would have more than 96.", """
            7 x feed(0x20202020, 0x20202020, 0x20202020); count(6) => 84; feed(0x6c6f7420, 0x20202020, 0x20202037) => 96
            feed(0, 0, 0) => FULL; feed(1, 2, 3) => FULL; count(6) => 96; text() => 0; lot() => 7
            """);
        edges.of("it would have more than 96", """
            8 x feed(0x20202020, 0x20202020, 0x20202020); trim(95); feed(0, 0, 0) => FULL; trim(85) => 85
            feed(0, 0, 0) => FULL; count(6) => 85; trim(84); feed(0x6c6f7420, 0x20202020, 0x20202037) => 96; text() => 0
            lot() => 7; trim(0) => 0; feed(0, 0, 0) => 12
            """);
        edges.of("`int feed(int a, int b, int c)`", Edges.LIVED + """
            7 x feed(0x20202020, 0x20202020, 0x20202020); count(6) => 91; feed(0, 0, 0) => FULL; text() => 4; lot() => 21
            """);
    }

    private static void trim() {
        edges.of("THE TAPE keeps its first n bytes: n. BAD.", """
            trim(0) => 0; trim(1) => BAD; trim(-1) => BAD; tape 'lot 1234'; trim(9) => BAD; trim(-1) => BAD; trim(MIN) => BAD
            trim(MAX) => BAD; trim(12) => BAD; count(6) => 8; trim(8) => 8; trim(6) => 6; trim(7) => BAD; count(6) => 6
            text() => 0; lot() => 12; tape 'lot 1'; trim(0) => 0; count(6) => 0; text() => fault 0
            """);
        edges.of("`int trim(int n)`", Edges.LIVED + "trim(8) => BAD; trim(-1) => BAD; trim(7) => 7; trim(5) => 5; text() => 4; lot() => 3");
    }

    private static void text() {
        edges.of("THE TAPE is a TEXT: its number. -100 less the place of its FAULT; FULL.", FOURTEEN + """
            text 'lot 1' => FULL; text 'lot 1 1' => fault 6; text 'lot' => fault 3; text() => fault 0; text 'bill 1' => FULL
            count(4) => 14; why(2) => 13; why(1) => NONE; lot() => 7; textTold(13, 1) => 2; textTold(14, 0) => BAD
            """);
        edges.of("`int text()`", Edges.LIVED + """
            trim(6); text() => fault 6; text 'fade w' => fault 5; text() => fault 0; count(4) => 4; why(2) => 3
            why(0) => 0; text 'fade 1' => 4; why(0) => 4
            """);
    }

    private static void textTold() {
        edges.of("Of a TEXT: what 0 KEY (0 fade, 1 bill, 2 lot), 1 how many NUMBERS and NAMES it has. BAD.", Edges.LIVED + """
            textTold(-1, 0) => BAD; textTold(4, 0) => BAD; textTold(4, 1) => BAD; textTold(14, 0) => BAD
            textTold(MIN, 0) => BAD; textTold(MAX, 0) => BAD; textTold(0, -1) => BAD; textTold(0, 2) => BAD
            textTold(0, MIN) => BAD; textTold(0, MAX) => BAD; textTold(0, 0) => 0; textTold(0, 1) => 2
            textTold(1, 0) => 1; textTold(1, 1) => 2; textTold(2, 0) => 2; textTold(2, 1) => 3; textTold(3, 0) => 2
            textTold(3, 1) => 2; back(); textTold(3, 0) => BAD; textTold(2, 0) => 2
            """);
        edges.of("1 how many NUMBERS and NAMES it has", """
            textTold(0, 0) => BAD; textTold(0, 1) => BAD; text 'lot 7'; textTold(0, 1) => 1; text 'lot !((d))'
            textTold(1, 1) => 1; text 'lot d+d+1000+d'; textTold(2, 1) => 4; text 'lot 1+1+1+1+'; textTold(3, 1) => BAD
            text '46 ones' => 3; textTold(3, 1) => 46
            """.replace("46 ones", ONES));
    }

    private static void why() {
        edges.of("The TEXT that counts for a KEY. BAD; NONE.", """
            why(-1) => BAD; why(3) => BAD; why(MIN) => BAD; why(MAX) => BAD; why(0) => NONE; why(1) => NONE; why(2) => NONE
            text 'lot 1'; why(2) => 0; why(0) => NONE; why(1) => NONE; text 'fade 1'; why(0) => 1; text 'bill 1'
            why(1) => 2; why(3) => BAD; why(-1) => BAD; text 'bill'; why(1) => 2
            """);
    }
}
