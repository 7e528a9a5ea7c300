/** All that an object can be made to tell, as one text; the object is used up by it. At most some 400 calls. */
final class Whole {
    private final OldPot x;
    private final StringBuilder s = new StringBuilder();

    private Whole(OldPot x) {
        this.x = x;
    }

    static String of(OldPot x) {
        Whole whole = new Whole(x);
        whole.stock("now");
        whole.slots();
        whole.sheets();
        whole.put("differs", x.differs());
        if (x.differs() == Due.NO) {
            // The numbers that wait are told by check() alone, which needs an image.
            x.keep();
        }
        whole.put("check", x.check(30));
        whole.put("text", x.text());
        whole.put("why", x.why(0), x.why(1), x.why(2), x.lot());
        whole.put("back", x.back());
        whole.stock("image");
        return whole.s.toString();
    }

    private void put(String name, int... values) {
        s.append(name);
        for (int v : values) {
            s.append(' ').append(v);
        }
        s.append('\n');
    }

    /** What an image keeps, and how much waits. */
    private void stock(String name) {
        for (int what = 0; what < 8; what++) {
            put(name + " count", what, x.count(what));
        }
        for (int i = 0; i < x.count(0); i++) {
            put(name + " thing", i, x.told(i, 0), x.told(i, 1), x.told(i, 2), x.told(i, 3));
        }
        for (int i = 0; i < x.count(4); i++) {
            put(name + " text", i, x.textTold(i, 0), x.textTold(i, 1));
        }
        put(name + " laws", x.why(0), x.why(1), x.why(2), x.lot(), x.taste(), x.told(0, 8));
        put(name + " grams", x.grams(0), x.grams(1), x.grams(2));
    }

    private void slots() {
        for (int slot = 0; slot < 5; slot++) {
            // By the least of all ints the rest of every other one is itself.
            int number = x.rest(slot, Integer.MIN_VALUE);
            put("slot", slot, number);
            if (number != Due.KIND) {
                continue;
            }
            if (x.ask(slot, 0) == Due.KIND) {
                row("slot", slot);
            } else {
                put("thing", x.ask(slot, 0), x.ask(slot, 1), x.ask(slot, 2), x.ask(slot, 3), x.ask(slot, 4), x.ask(slot, 5));
            }
        }
    }

    private void row(String name, int slot) {
        int v = 0;
        for (int place = 0; v != Due.INDEX; place++) {
            v = x.item(slot, place);
            put(name + " place", place, v);
        }
    }

    /** Their places by way of a slot, their sorts by copies of no places. */
    private void sheets() {
        for (int sheet = 0; sheet < 4; sheet++) {
            boolean there = x.lay(0, 2, sheet) != Due.NOTHING;
            put("sheet", sheet, there ? 1 : 0);
            if (there) {
                row("sheet", 0);
            }
        }
        for (int sheet = 0; sheet < 3; sheet++) {
            put("of one sort", sheet, x.copy(sheet, 0, sheet + 1, 0, 0));
        }
        x.sheet(3, 0, 0);
        for (int sheet = 0; sheet < 3; sheet++) {
            put("shorts", sheet, x.copy(sheet, 0, 3, 0, 0));
        }
    }
}
