/** The boundary cases of the document's part 5 and of promises 28 to 36, sentence by sentence. */
public final class EdgeSheetTest {
    private static final Due due = new Due();
    private static final Edges edges = new Edges(due);
    /** Fills sheet 0, of 24 places, with what its first place is. */
    private static final String SPREAD = """
            copy(0, 0, 0, 1, 1); copy(0, 0, 0, 2, 2); copy(0, 0, 0, 4, 4); copy(0, 0, 0, 8, 8); copy(0, 0, 0, 16, 8)
            """;

    public static void main(String[] args) {
        rows();
        slots();
        findings();
        sheet();
        markShorts();
        markFloats();
        markRefused();
        pour();
        reads();
        copy();
        copyWithin();
        copyRefused();
        lay();
        laidForGood();
        ask();
        item();
        rest();
        due.end();
    }

    private static void rows() {
        edges.of("SHEETS 0 .. 3 are rows of shorts (sort 0) or floats (1; whole numbers), with 0 to 24 places, or MISSING (at first).", """
            reads(0) => NOTHING; reads(1) => NOTHING; reads(2) => NOTHING; reads(3) => NOTHING; reads(-1) => BAD
            reads(4) => BAD; sheet(0, 0, 0) => 0; sheet(3, 1, 24) => 24; sheet(-1, 0, 1) => BAD; sheet(4, 0, 1) => BAD
            sheet(1, 0, 25) => BAD; sheet(1, 0, -1) => SIZE; reads(1) => NOTHING; mark(0, 0, 0) => INDEX
            mark(3, 23, 5) => 1; mark(3, 24, 5) => INDEX; sheet(2, 0, 1) => 1; mark(2, 0, 5) => 1; mark(2, 1, 5) => INDEX
            """);
        edges.of("A place of floats may be NO NUMBER.", """
            sheet(0, 1, 2); sheet(1, 0, 2); mark(0, 1, NONE) => 1; mark(1, 1, NONE) => KIND; lay(0, 2, 0)
            item(0, 0) => 0; item(0, 1) => KIND; mark(0, 1, 0) => 1; lay(0, 2, 0); item(0, 1) => 0
            """);
    }

    private static void slots() {
        edges.of("SLOTS 0 .. 4 each hold nothing (at first)", """
            rest(0, 1) => NOTHING; rest(1, 1) => NOTHING; rest(2, 1) => NOTHING; rest(3, 1) => NOTHING
            rest(4, 1) => NOTHING; rest(5, 1) => BAD; rest(-1, 1) => BAD; item(4, 0) => NOTHING; item(5, 0) => BAD
            item(-1, 0) => BAD; ask(4, 0) => NOTHING; ask(5, 0) => BAD; ask(-1, 0) => BAD; lay(4, 3, 7) => 0
            lay(5, 3, 7) => BAD; lay(-1, 3, 7) => BAD; rest(4, 10) => 7; rest(3, 10) => NOTHING; lay(0, 3, 8) => 0
            rest(0, 10) => 8; rest(4, 10) => 7
            """);
    }

    private static void findings() {
        edges.of("FINDINGS: NOTHING: a SHEET is MISSING, a SLOT holds nothing; INDEX: there is no such place; SIZE: a number of places is below 0; KIND: it is none (of a KIND, a number, or another thing).", Edges.LIVED + """
            mark(2, 0, 0) => NOTHING; pour(2) => NOTHING; reads(2) => NOTHING; thrown(2, 0) => NOTHING
            copy(2, 0, 0, 0, 0) => NOTHING; copy(0, 0, 2, 0, 0) => NOTHING; lay(0, 2, 2) => NOTHING; ask(3, 0) => NOTHING
            item(4, 0) => NOTHING; rest(3, 1) => NOTHING; mark(0, 3, 0) => INDEX; mark(0, -1, 0) => INDEX
            copy(0, 0, 3, 22, 3) => INDEX; item(1, 4) => INDEX; sheet(2, 0, -1) => SIZE; sheet(0, 1, -1) => SIZE
            mark(0, 0, NONE) => KIND; copy(0, 0, 1, 0, 1) => KIND; ask(1, 0) => KIND; ask(2, 0) => KIND; ask(0, 2) => KIND
            item(0, 0) => KIND; item(2, 0) => KIND; item(1, 1) => KIND; rest(0, 1) => KIND; rest(1, 1) => KIND
            as(0, 1) => KIND
            """);
    }

    private static void sheet() {
        edges.of("A SHEET becomes a row of n places of a sort, all 0 (sort -1: MISSING, n any): n (0).", """
            sheet(0, 1, 24) => 24; mark(0, 0, 5); mark(0, 23, NONE); sheet(0, 1, 24) => 24; lay(0, 2, 0); item(0, 0) => 0
            item(0, 23) => 0; mark(0, 23, 5); sheet(0, 0, 23) => 23; lay(0, 2, 0); item(0, 23) => INDEX; item(0, 22) => 0
            sheet(0, 0, 24) => 24; lay(0, 2, 0); item(0, 23) => 0; sheet(0, -1, 24) => 0; mark(0, 0, 0) => NOTHING
            sheet(0, 0, 1); sheet(0, -1, 25) => 0; mark(0, 0, 0) => NOTHING; sheet(0, 0, 1); sheet(0, -1, -1) => 0
            mark(0, 0, 0) => NOTHING; sheet(0, -1, MIN) => 0; sheet(0, -1, MAX) => 0; sheet(0, -1, 0) => 0
            sheet(0, 1, 0) => 0; mark(0, 0, 0) => INDEX; pour(0) => 0
            """);
        edges.of("BAD: sheet, sort, n above 24; SIZE.", Edges.LIVED + """
            sheet(-1, 0, 1) => BAD; sheet(4, 0, 1) => BAD; sheet(MIN, 0, 1) => BAD; sheet(MAX, 0, 1) => BAD
            sheet(0, -2, 1) => BAD; sheet(0, 2, 1) => BAD; sheet(0, MIN, 1) => BAD; sheet(0, MAX, 1) => BAD
            sheet(0, 0, 25) => BAD; sheet(0, 1, 25) => BAD; sheet(0, 0, MAX) => BAD; sheet(0, 0, -1) => SIZE
            sheet(0, 1, -1) => SIZE; sheet(0, 0, MIN) => SIZE; sheet(1, 1, -1) => SIZE; sheet(4, 0, -1) => BAD
            sheet(-1, -1, 0) => BAD; sheet(4, -1, 0) => BAD; sheet(0, 2, -1) => BAD; sheet(0, -2, -1) => BAD
            sheet(2, 0, 25) => BAD; sheet(2, 0, -1) => SIZE; reads(2) => NOTHING
            """);
    }

    private static void markShorts() {
        edges.of("(of shorts its lowest 16 bits; of floats v, -99999 .. 99999; NONE: NO NUMBER): 1.", """
            sheet(0, 0, 1); mark(0, 0, 32767) => 1; lay(0, 2, 0); item(0, 0) => 32767; mark(0, 0, 32768) => 1; lay(0, 2, 0)
            item(0, 0) => -32768; mark(0, 0, -32768) => 1; lay(0, 2, 0); item(0, 0) => -32768; mark(0, 0, -32769) => 1
            lay(0, 2, 0); item(0, 0) => 32767; mark(0, 0, 65535) => 1; lay(0, 2, 0); item(0, 0) => -1
            mark(0, 0, 65536) => 1; lay(0, 2, 0); item(0, 0) => 0; mark(0, 0, 65537) => 1; lay(0, 2, 0); item(0, 0) => 1
            mark(0, 0, 100000) => 1; lay(0, 2, 0); item(0, 0) => -31072; mark(0, 0, MIN) => 1; lay(0, 2, 0)
            item(0, 0) => 0; mark(0, 0, MAX) => 1; lay(0, 2, 0); item(0, 0) => -1; mark(0, 0, -999934469) => 1
            lay(0, 2, 0); item(0, 0) => 13819; mark(0, 0, BAD) => 1; lay(0, 2, 0); item(0, 0) => 13823
            """);
        edges.of("KIND: NONE in a row of shorts", """
            sheet(0, 0, 2); mark(0, 0, 9); mark(0, 0, NONE) => KIND; mark(0, 1, NONE) => KIND; mark(0, 2, NONE) => INDEX
            mark(0, -1, NONE) => INDEX; lay(0, 2, 0); item(0, 0) => 9; item(0, 1) => 0
            """);
    }

    private static void markFloats() {
        edges.of("of floats v, -99999 .. 99999; NONE: NO NUMBER", """
            sheet(0, 1, 2); mark(0, 0, 99999) => 1; lay(0, 2, 0); item(0, 0) => 99999; mark(0, 0, 100000) => BAD
            mark(0, 0, MAX) => BAD; mark(0, 0, -99999) => 1; lay(0, 2, 0); item(0, 0) => -99999; mark(0, 0, -100000) => BAD
            mark(0, 0, MIN) => BAD; mark(0, 0, BAD) => BAD; mark(0, 0, FULL) => BAD; mark(0, 0, -1000000004) => BAD
            mark(0, 0, -1000000006) => BAD; lay(0, 2, 0); item(0, 0) => -99999; mark(0, 0, NONE) => 1; lay(0, 2, 0)
            item(0, 0) => KIND; mark(0, 0, 100000) => BAD; lay(0, 2, 0); item(0, 0) => KIND; mark(0, 0, 32768) => 1
            lay(0, 2, 0); item(0, 0) => 32768; item(0, 1) => 0
            """);
    }

    private static void markRefused() {
        edges.of("BAD: sheet; NOTHING; INDEX; KIND: NONE in a row of shorts; BAD: v of floats.", Edges.LIVED + """
            mark(-1, 0, 0) => BAD; mark(4, 0, 0) => BAD; mark(MIN, 0, 0) => BAD; mark(MAX, 0, 0) => BAD
            mark(2, 0, 0) => NOTHING; mark(2, -1, NONE) => NOTHING; mark(2, 99, 100000) => NOTHING; mark(0, -1, 0) => INDEX
            mark(0, 3, 0) => INDEX; mark(0, MIN, NONE) => INDEX; mark(0, MAX, NONE) => INDEX; mark(1, 4, 100000) => INDEX
            mark(1, -1, 100000) => INDEX; mark(3, 24, 0) => INDEX; mark(0, 0, NONE) => KIND; mark(0, 2, NONE) => KIND
            mark(3, 23, NONE) => KIND; mark(1, 0, 100000) => BAD; mark(1, 3, -100000) => BAD; mark(1, 1, MAX) => BAD
            mark(0, 2, 4) => 1; mark(1, 3, 4) => 1; mark(3, 23, 4) => 1; mark(1, 0, NONE) => 1
            """);
    }

    private static void pour() {
        edges.of("AMOUNT of THINGS, by numbers, becomes the places of a SHEET from 0 on (each held within 0 .. 99999; NO NUMBER, and beyond the SHEET: it stays): how many are otherwise then.", """
            4 x thing(0, 1); set(0, 2, 10); set(1, 2, 11); set(2, 2, 12); set(3, 2, 13); sheet(0, 1, 3); mark(0, 0, 99999)
            mark(0, 1, NONE); mark(0, 2, -1); pour(0) => 2; told(0, 2) => 99999; told(1, 2) => 11; told(2, 2) => 0
            told(3, 2) => 13; pour(0) => 0; mark(0, 2, -99999); pour(0) => 0; mark(0, 0, 0); pour(0) => 1; told(0, 2) => 0
            mark(0, 0, 1); mark(0, 1, 11); pour(0) => 1; told(0, 2) => 1; told(0, 3) => 0
            """);
        edges.of("beyond the SHEET: it stays", """
            8 x thing(0, 1); set(7, 2, 5); sheet(0, 0, 0); pour(0) => 0; sheet(0, 0, 7); mark(0, 6, 9); pour(0) => 1
            told(6, 2) => 9; told(7, 2) => 5; sheet(0, 0, 8); pour(0) => 2; told(7, 2) => 0; mark(0, 7, 1); pour(0) => 1
            mark(0, 0, -32768); mark(0, 1, 32767); pour(0) => 1; told(0, 2) => 0; told(1, 2) => 32767
            sheet(0, 0, 24); mark(0, 8, 3); mark(0, 23, 3); pour(0) => 2; grams(2) => 0
            """);
        edges.of("how many are otherwise then. BAD; NOTHING.", Edges.LIVED + """
            pour(-1) => BAD; pour(4) => BAD; pour(MIN) => BAD; pour(MAX) => BAD; pour(2) => NOTHING
            pour(1) => 3; told(0, 2) => 99999; told(1, 2) => 250; told(2, 2) => 0; told(3, 2) => 0; told(4, 2) => 334
            """);
        edges.of("AMOUNT of THINGS, by numbers", "pour(0) => NOTHING; sheet(0, 0, 24); mark(0, 0, 7); pour(0) => 0; thing(0, 1); told(0, 2) => 0");
    }

    private static void reads() {
        edges.of("The first place k (of numbers alone) at which a SHEET is not TASTE of the pot behind k DAYS.", """
            sheet(0, 1, 24); reads(0) => NONE; mark(0, 23, 1); reads(0) => 23; mark(0, 23, NONE); reads(0) => NONE
            mark(0, 22, -1); reads(0) => 22; mark(0, 0, 1); reads(0) => 0; mark(0, 0, NONE); reads(0) => 22
            thing(0, 1); set(0, 2, 125); reads(0) => 1; mark(0, 1, 1); reads(0) => 22; mark(0, 22, 0); reads(0) => NONE
            mark(0, 0, 1); reads(0) => NONE; mark(0, 0, 2); reads(0) => 0; sheet(1, 0, 0); reads(1) => NONE
            """);
        edges.of("at which a SHEET is not TASTE of the pot behind k DAYS", """
            thing(0, 1); set(0, 2, 500); pot(1, 0); sheet(0, 0, 24); mark(0, 0, 5)
            """ + SPREAD + """
            reads(0) => NONE; mark(0, 23, 4); reads(0) => 23; mark(0, 23, 6); reads(0) => 23; mark(0, 23, 5); pot(1, 1)
            reads(0) => 1; set(0, 2, 524); reads(0) => 5; set(0, 2, 525); reads(0) => 6
            """);
        edges.of("BAD; NOTHING; NONE: there is none.", Edges.LIVED + """
            reads(-1) => BAD; reads(4) => BAD; reads(MIN) => BAD; reads(MAX) => BAD; reads(2) => NOTHING; reads(0) => 0
            mark(0, 0, 116); reads(0) => 1; mark(0, 1, 84); reads(0) => 2
            """);
    }

    private static void copy() {
        edges.of("So many places of a SHEET come to another one (or the same), as they were: many.", """
            sheet(0, 0, 3); sheet(1, 0, 24); mark(0, 0, 1); mark(0, 1, 2); mark(0, 2, 3); copy(0, 0, 1, 0, 0) => 0
            copy(0, 0, 1, 21, 3) => 3; lay(0, 2, 1); item(0, 20) => 0; item(0, 21) => 1; item(0, 23) => 3
            copy(0, 2, 1, 0, 1) => 1; copy(1, 23, 0, 0, 1) => 1; lay(0, 2, 0); item(0, 0) => 3; item(0, 1) => 2
            copy(0, 3, 1, 24, 0) => 0; copy(0, 3, 0, 3, 0) => 0; copy(1, 0, 0, 0, 3) => 3; lay(0, 2, 0); item(0, 0) => 3
            item(0, 1) => 0; sheet(2, 0, 0); copy(2, 0, 1, 0, 0) => 0; copy(1, 24, 2, 0, 0) => 0
            copy(1, 0, 1, 0, 24) => 24; copy(1, 0, 2, 0, 1) => INDEX; copy(2, 0, 1, 0, 1) => INDEX
            """);
        edges.of("So many places of a SHEET come to another one", """
            sheet(0, 1, 2); sheet(1, 1, 2); mark(0, 0, NONE); mark(0, 1, 99999); mark(1, 0, 4); copy(0, 0, 1, 0, 2) => 2
            lay(0, 2, 1); item(0, 0) => KIND; item(0, 1) => 99999; mark(0, 0, 6); lay(0, 2, 1); item(0, 0) => KIND
            """);
    }

    private static void copyWithin() {
        edges.of("(or the same), as they were", """
            sheet(0, 0, 4); mark(0, 0, 1); mark(0, 1, 2); mark(0, 2, 3); mark(0, 3, 4); copy(0, 0, 0, 1, 3) => 3
            lay(0, 2, 0); item(0, 0) => 1; item(0, 1) => 1; item(0, 2) => 2; item(0, 3) => 3; copy(0, 1, 0, 0, 3) => 3
            lay(0, 2, 0); item(0, 0) => 1; item(0, 1) => 2; item(0, 2) => 3; item(0, 3) => 3; copy(0, 0, 0, 0, 4) => 4
            copy(0, 0, 0, 1, 4) => INDEX; copy(0, 1, 0, 0, 4) => INDEX; lay(0, 2, 0); item(0, 0) => 1; item(0, 3) => 3
            """);
    }

    private static void copyRefused() {
        edges.of("BAD; NOTHING; KIND: they are not of one sort; INDEX.", Edges.LIVED + """
            copy(-1, 0, 0, 0, 1) => BAD; copy(4, 0, 0, 0, 1) => BAD; copy(0, 0, -1, 0, 1) => BAD; copy(0, 0, 4, 0, 1) => BAD
            copy(MIN, 0, 0, 0, 1) => BAD; copy(0, 0, MAX, 0, 1) => BAD; copy(2, 0, 4, 0, 1) => BAD; copy(4, 0, 2, 0, 1) => BAD
            copy(2, 0, 0, 0, 1) => NOTHING; copy(0, 0, 2, 0, 1) => NOTHING; copy(2, -1, 1, 99, -1) => NOTHING
            copy(2, 0, 2, 0, 0) => NOTHING; copy(0, 0, 1, 0, 1) => KIND; copy(1, 0, 0, 0, 1) => KIND
            copy(1, 0, 3, 0, 0) => KIND; copy(0, -1, 1, 0, 1) => KIND; copy(1, 4, 0, 3, 99) => KIND
            copy(0, -1, 3, 0, 1) => INDEX; copy(0, 3, 3, 0, 1) => INDEX; copy(0, 0, 3, -1, 1) => INDEX
            copy(0, 0, 3, 24, 1) => INDEX; copy(0, 0, 3, 22, 3) => INDEX; copy(0, 1, 3, 0, 3) => INDEX
            copy(0, 0, 3, 0, 4) => INDEX; copy(3, 0, 0, 0, 4) => INDEX; copy(0, 4, 3, 0, 0) => INDEX
            copy(0, 0, 3, 25, 0) => INDEX; copy(0, 0, 3, 0, -1) => INDEX; copy(0, 0, 3, 0, MIN) => INDEX
            copy(0, 0, 3, 0, MAX) => INDEX; copy(0, MAX, 3, 0, 1) => INDEX; copy(0, 0, 3, MAX, 1) => INDEX
            copy(0, 1, 3, 1, MAX) => INDEX; copy(0, MAX, 3, MAX, MAX) => INDEX; copy(0, MIN, 3, MIN, MIN) => INDEX
            copy(0, 3, 3, 24, 0) => 0; copy(0, 2, 3, 23, 1) => 1; copy(0, 0, 3, 21, 3) => 3
            """);
    }

    private static void lay() {
        edges.of("A SLOT holds: thing 0 nothing, 1 THING k, 2 SHEET k, 3 the number k: what it held (0 .. 3).", """
            thing(5, 1); sheet(3, 0, 1); lay(0, 0, 0) => 0; lay(0, 0, MIN) => 0; lay(0, 0, MAX) => 0; lay(0, 1, 0) => 0
            lay(0, 1, 0) => 1; lay(0, 2, 3) => 1; lay(0, 2, 3) => 2; lay(0, 3, MAX) => 2; rest(0, MIN) => MAX
            lay(0, 3, MIN) => 3; rest(0, MAX) => -1; lay(0, 3, NONE) => 3; rest(0, MIN) => NONE; lay(0, 0, 9) => 3
            rest(0, 1) => NOTHING; lay(0, 3, 0) => 0; rest(0, 5) => 0; lay(4, 1, 0) => 0; ask(4, 5) => 60; lay(4, 0, 0) => 1
            """);
        edges.of("BAD: slot, thing, k; NOTHING: that SHEET is MISSING.", Edges.LIVED + """
            lay(-1, 0, 0) => BAD; lay(5, 0, 0) => BAD; lay(MIN, 3, 0) => BAD; lay(MAX, 3, 0) => BAD; lay(0, -1, 0) => BAD
            lay(0, 4, 0) => BAD; lay(0, MIN, 0) => BAD; lay(0, MAX, 0) => BAD; lay(0, 1, -1) => BAD; lay(0, 1, 6) => BAD
            lay(0, 1, 8) => BAD; lay(0, 1, MIN) => BAD; lay(0, 1, MAX) => BAD; lay(0, 2, -1) => BAD; lay(0, 2, 4) => BAD
            lay(0, 2, MIN) => BAD; lay(0, 2, MAX) => BAD; lay(0, 2, 2) => NOTHING; lay(1, 2, 2) => NOTHING
            lay(2, 2, 2) => NOTHING; lay(3, 2, 2) => NOTHING; lay(5, 2, 2) => BAD; lay(-1, 2, 2) => BAD
            ask(0, 3) => 22; item(1, 0) => 99999; rest(2, MAX) => 1234567; lay(3, 1, 5) => 0; lay(4, 2, 3) => 0
            ask(3, 0) => 60; item(4, 23) => 6; lay(0, 2, 0) => 1; lay(1, 3, 1) => 2; lay(2, 0, 1) => 3
            """);
    }

    private static void laidForGood() {
        edges.of("a THING (as it is then, for good), a SHEET (a row of its own, as it was then), or a number", """
            thing(3, 5); sheet(0, 1, 2); mark(0, 0, 8); mark(0, 1, NONE); keep(); lay(0, 1, 0); lay(1, 2, 0)
            turns(0, 4); set(0, 1, 9); ask(0, 3) => 28; ask(0, 4) => KIND; mark(0, 0, 9); mark(0, 1, 9); item(1, 0) => 8
            item(1, 1) => KIND; sheet(0, 0, 1); item(1, 0) => 8; item(1, 2) => INDEX; sheet(0, -1, 0); item(1, 0) => 8
            back(); ask(0, 3) => 28; lay(2, 1, 0); ask(2, 1) => 28; sheet(0, 1, 2); mark(0, 0, 3); lay(3, 2, 0)
            item(3, 0) => 3; item(1, 0) => 8
            """);
        edges.of("as it is then, for good", """
            keep(); thing(5, 1); lay(0, 1, 0); back() => 0; count(0) => 0; ask(0, 5) => 60; lay(1, 1, 0) => BAD
            rest(1, 1) => NOTHING; thing(0, 1); ask(0, 5) => 60; lay(0, 1, 0) => 1; ask(0, 5) => KIND; ask(0, 0) => 1
            """);
    }

    private static void ask() {
        edges.of("WORTH of the THING in a SLOT, taken for one of a KIND (0 .. 5). BAD; NOTHING; KIND: it is no THING, or not of that KIND, nor of one under it.", Edges.LIVED + """
            ask(-1, 0) => BAD; ask(5, 0) => BAD; ask(MIN, 0) => BAD; ask(MAX, 0) => BAD; ask(0, -1) => BAD; ask(0, 6) => BAD
            ask(0, MIN) => BAD; ask(0, MAX) => BAD; ask(3, 6) => BAD; ask(3, -1) => BAD; ask(1, 6) => BAD; ask(3, 0) => NOTHING
            ask(4, 5) => NOTHING; ask(1, 0) => KIND; ask(2, 0) => KIND; ask(0, 0) => 22; ask(0, 1) => 22; ask(0, 2) => KIND
            ask(0, 3) => 22; ask(0, 4) => KIND; ask(0, 5) => KIND; lay(4, 1, 4); ask(4, 0) => 29; ask(4, 2) => 29
            ask(4, 4) => 29; ask(4, 1) => KIND; ask(4, 3) => KIND; ask(4, 5) => KIND; lay(4, 1, 2); ask(4, 2) => 31
            ask(4, 4) => KIND; ask(4, 0) => 31; lay(4, 1, 1); ask(4, 1) => 13; ask(4, 3) => KIND; ask(4, 0) => 13
            lay(4, 1, 5); ask(4, 5) => 60; ask(4, 0) => 60; ask(4, 1) => KIND; thing(0, 9); lay(4, 1, 6); ask(4, 0) => 9
            ask(4, 1) => KIND; ask(4, 5) => KIND
            """);
    }

    private static void item() {
        edges.of("A place of the SHEET in a SLOT. BAD: slot; NOTHING; KIND: it is no SHEET; INDEX; KIND: NO NUMBER.", Edges.LIVED + """
            item(-1, 0) => BAD; item(5, 0) => BAD; item(MIN, 0) => BAD; item(MAX, 0) => BAD; item(5, -1) => BAD
            item(3, 0) => NOTHING; item(4, -1) => NOTHING; item(0, 0) => KIND; item(0, -1) => KIND; item(2, 99) => KIND
            item(1, -1) => INDEX; item(1, 4) => INDEX; item(1, MIN) => INDEX; item(1, MAX) => INDEX; item(1, 0) => 99999
            item(1, 1) => KIND; item(1, 2) => -7; item(1, 3) => 0; lay(4, 2, 3); item(4, 23) => 6; item(4, 24) => INDEX
            sheet(0, 0, 0); lay(4, 2, 0); item(4, 0) => INDEX; item(4, -1) => INDEX; item(4, 23) => INDEX
            """);
    }

    private static void rest() {
        edges.of("The rest of the number in a SLOT by n. BAD: slot; NOTHING; KIND: it is no number; NO: n is 0.", Edges.LIVED + """
            rest(-1, 1) => BAD; rest(5, 1) => BAD; rest(MIN, 1) => BAD; rest(MAX, 1) => BAD; rest(-1, 0) => BAD; rest(5, 0) => BAD
            rest(3, 1) => NOTHING; rest(4, 0) => NOTHING; rest(0, 1) => KIND; rest(0, 0) => KIND; rest(1, 0) => KIND
            rest(1, 5) => KIND; rest(2, 0) => NO; rest(2, 1) => 0; rest(2, -1) => 0; rest(2, 10) => 7; rest(2, -10) => 7
            rest(2, 1234567) => 0; rest(2, 1234568) => 1234567; rest(2, 1234566) => 1; rest(2, MIN) => 1234567
            """);
        edges.of("NO: n is 0", """
            lay(0, 3, 0); rest(0, 0) => NO; rest(0, 1) => 0; rest(0, -1) => 0; lay(0, 3, MIN); rest(0, -1) => 0; rest(0, 0) => NO
            rest(0, MIN) => 0; rest(0, MAX) => -1; rest(0, 10) => -8; rest(0, -10) => -8; lay(0, 3, -7); rest(0, 2) => -1
            rest(0, -2) => -1; rest(0, 7) => 0; rest(0, 8) => -7
            """);
    }
}
