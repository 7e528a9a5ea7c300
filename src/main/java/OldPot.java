/** Stock since the war: a pot that is never empty, told in rows. README.md says how to use it. */
public final class OldPot {
    public static final int BAD = -1000000001, NO = -1000000002, FULL = -1000000003, NONE = -1000000005,
            NOTHING = -1000000011, KIND = -1000000012, INDEX = -1000000013, SIZE = -1000000014;

    private static final int MOST_THINGS = 8;
    private static final int MOST_STRONG = 9;
    private static final int MOST_AMOUNT = 99999;
    private static final int MOST_AGE = 9999;
    private static final int MOST_TOSSED = 9999;
    private static final int MOST_SIZE = 999;
    private static final int LAST_DAY = 9999;
    private static final int MOST_DAYS = 300;

    private static final int THING = 0;
    private static final int BONE = 1;
    private static final int HERB = 2;
    private static final int MARROW = 3;
    private static final int LEAF = 4;
    private static final int SALT = 5;
    private static final int KINDS = 6;
    /** The kind right above each kind; -1 ends the way up. */
    private static final int[] ABOVE = {-1, 0, 0, 1, 2, 0};

    private static final int FADE = 0;
    private static final int BILL = 1;
    private static final int LOT = 2;
    private static final int KEYS = 3;
    private static final int MOST_TEXTS = 14;
    private static final int MOST_TAPE = 96;

    private static final int SHEETS = 4;
    private static final int MOST_PLACES = 24;
    private static final int MISSING = -1;
    private static final int SHORTS = 0;
    private static final int FLOATS = 1;

    private static final int SLOTS = 5;
    private static final int HOLDS_NOTHING = 0;
    private static final int HOLDS_THING = 1;
    private static final int HOLDS_SHEET = 2;
    private static final int HOLDS_NUMBER = 3;

    private static final int MOST_WAITING = 60;

    private final Laws laws = new Laws();
    private final Stock now = new Stock(laws);
    private final Stock image = new Stock(laws);
    /** Two pots to think with; they are made once, so that no call makes anything. */
    private final Stock thought = new Stock(laws);
    private final Stock trial = new Stock(laws);
    private final Tape tape = new Tape();
    private final Row[] sheets = new Row[SHEETS];
    private final Slot[] slots = new Slot[SLOTS];
    private final int[] waiting = new int[MOST_WAITING];
    private int waitingCount = 0;
    private boolean imageKept = false;

    public OldPot() {
        for (int i = 0; i < SHEETS; i++) {
            sheets[i] = new Row();
        }
        for (int i = 0; i < SLOTS; i++) {
            slots[i] = new Slot();
        }
    }

    // ---- things

    public int thing(int kind, int strong) {
        if (!within(kind, 0, KINDS - 1) || !within(strong, 1, MOST_STRONG)) {
            return BAD;
        }
        return now.things < MOST_THINGS ? now.addThing(kind, strong, 0) : FULL;
    }

    public int toss(int thing, int amount) {
        if (!now.has(thing) || !within(amount, 1, MOST_TOSSED)) {
            return BAD;
        }
        now.throwIn(thing, amount);
        return now.amounts[thing];
    }

    public int told(int thing, int what) {
        if (!now.has(thing)) {
            return BAD;
        }
        switch (what) {
            case 0: return now.kinds[thing];
            case 1: return now.strongs[thing];
            case 2: return now.amounts[thing];
            case 3: return now.ages[thing];
            case 4: return now.tasteOf(thing);
            case 5: return now.wearsOf(thing);
            case 6: return worthOf(now.kinds[thing], now.strongs[thing]);
            case 7: return now.shareOf(thing);
            case 8: return now.billOf(thing);
            default: return BAD;
        }
    }

    public int as(int thing, int kind) {
        if (!now.has(thing) || !within(kind, 0, KINDS - 1)) {
            return BAD;
        }
        return isOfKind(now.kinds[thing], kind) ? now.strongs[thing] : KIND;
    }

    public int turns(int thing, int kind) {
        if (!now.has(thing) || !within(kind, 0, KINDS - 1)) {
            return BAD;
        }
        int was = now.kinds[thing];
        now.kinds[thing] = kind;
        return was;
    }

    public int set(int thing, int what, int v) {
        if (!now.has(thing)) {
            return BAD;
        }
        switch (what) {
            case 1: return within(v, 1, MOST_STRONG) ? exchange(now.strongs, thing, v) : BAD;
            case 2: return within(v, 0, MOST_AMOUNT) ? exchange(now.amounts, thing, v) : BAD;
            case 3: return within(v, 0, MOST_AGE) ? exchange(now.ages, thing, v) : BAD;
            default: return BAD;
        }
    }

    public int deal(int n) {
        if (!within(n, 1, MOST_THINGS)) {
            return BAD;
        }
        int came = Math.min(n, MOST_THINGS - now.things);
        for (int i = 0; i < came; i++) {
            now.drawThing();
        }
        return came;
    }

    public int seed(int v) {
        int was = now.z;
        now.z = v;
        return was;
    }

    // ---- the pot

    public int pot(int what, int v) {
        int was;
        if (what == 0 && within(v, 1, MOST_SIZE)) {
            was = now.potSize;
            now.potSize = v;
        } else if (what == 1 && within(v, 0, MOST_SIZE)) {
            was = now.bowls;
            now.bowls = v;
        } else {
            was = BAD;
        }
        return was;
    }

    public int days(int n) {
        if (!within(n, 1, MOST_DAYS)) {
            return BAD;
        }
        now.passDays(Math.min(n, LAST_DAY - now.day));
        return now.tasteOfAll();
    }

    public int taste() {
        return now.tasteOfAll();
    }

    public int grams(int what) {
        switch (what) {
            case 0: return now.taken;
            case 1: return now.gone;
            case 2: return now.amountOfAll();
            default: return BAD;
        }
    }

    public int lot() {
        int law = now.lawFor[LOT];
        return law < 0 ? 0 : laws.workOut(law, now.day, now.tasteOfAll(), 0);
    }

    // ---- what will be

    public int behind(int thing, int n, int what) {
        if (!now.has(thing) || !within(n, 0, MOST_DAYS) || !within(what, 0, 3)) {
            return BAD;
        }
        thought.become(now);
        thought.passDays(n);
        switch (what) {
            case 0: return thought.amounts[thing];
            case 1: return thought.tasteOf(thing);
            case 2: return thought.tasteOfAll();
            default: return thought.taken;
        }
    }

    public int tasted(int thing) {
        if (!now.has(thing)) {
            return BAD;
        }
        thought.become(now);
        for (int n = 0; n <= MOST_DAYS; n++) {
            if (thought.tasteOf(thing) == 0) {
                return n;
            }
            thought.passDayOf(thing);
        }
        return NONE;
    }

    public int steer(int w, int n, int what) {
        if (!within(w, 0, MOST_AMOUNT) || !within(n, 0, 30) || !within(what, 0, 2)) {
            return BAD;
        }
        if (now.things == 0) {
            return NONE;
        }
        thought.become(now);
        thought.passDays(n);
        trial.become(now);
        int whole = thought.tasteOfAll();
        int best = 0;
        int bestMore = 0;
        int bestTaste = whole;
        for (int i = 0; i < now.things; i++) {
            // No thing changes how another one goes, so the others' taste behind n days stays.
            int others = whole - thought.tasteOf(i);
            for (int more = 0; more <= 1000; more += 50) {
                int then = others + tasteTried(i, more, n);
                if (Math.abs(then - w) < Math.abs(bestTaste - w)) {
                    best = i;
                    bestMore = more;
                    bestTaste = then;
                }
            }
        }
        return what == 0 ? best : what == 1 ? bestMore : bestTaste;
    }

    /** Taste of one thing behind n days, if there were more of it; trial has been made like now. */
    private int tasteTried(int thing, int more, int n) {
        trial.resetThing(now, thing);
        trial.throwIn(thing, more);
        trial.passDaysOf(thing, n);
        return trial.tasteOf(thing);
    }

    public int leastPot(int thing, int k, int n) {
        if (!now.has(thing) || !within(k, 0, MOST_AMOUNT) || !within(n, 0, 60)) {
            return BAD;
        }
        thought.become(now);
        for (int size = 10; size <= 990; size += 10) {
            thought.resetThing(now, thing);
            thought.potSize = size;
            thought.passDaysOf(thing, n);
            if (thought.amounts[thing] >= k) {
                return size;
            }
        }
        return NONE;
    }

    public int nearest(int w) {
        if (!within(w, 0, MOST_AMOUNT)) {
            return BAD;
        }
        thought.become(now);
        int best = 0;
        int bestGap = Math.abs(thought.tasteOfAll() - w);
        for (int n = 1; n <= 100; n++) {
            thought.passDay();
            int gap = Math.abs(thought.tasteOfAll() - w);
            if (gap < bestGap) {
                best = n;
                bestGap = gap;
            }
        }
        return best;
    }

    public int thrown(int sheet, int what) {
        if (!isSheet(sheet) || !within(what, 0, 1)) {
            return BAD;
        }
        if (sheets[sheet].isMissing()) {
            return NOTHING;
        }
        if (now.things == 0) {
            return NONE;
        }
        int best = 0;
        int bestGap = gapIfThrown(sheets[sheet], 0);
        for (int i = 1; i < now.things; i++) {
            int gap = gapIfThrown(sheets[sheet], i);
            if (gap < bestGap) {
                best = i;
                bestGap = gap;
            }
        }
        return what == 0 ? best : bestGap;
    }

    private int gapIfThrown(Row row, int thing) {
        thought.become(now);
        thought.throwIn(thing, 500);
        int gap = 0;
        for (int k = 0; k < row.size; k++) {
            if (row.isNumber(k)) {
                gap += Math.abs(thought.tasteOfAll() - row.places[k]);
            }
            thought.passDay();
        }
        return gap;
    }

    public int halved() {
        thought.become(now);
        trial.become(now);
        trial.halveAll();
        for (int n = 0; n <= 200; n++) {
            if (thought.tasteOfAll() == trial.tasteOfAll()) {
                return n;
            }
            thought.passDay();
            trial.passDay();
        }
        return NONE;
    }

    public int differs() {
        return imageKept ? now.tasteOfAll() - image.tasteOfAll() : NO;
    }

    // ---- texts

    public int feed(int a, int b, int c) {
        if (tape.length > MOST_TAPE - 12) {
            return FULL;
        }
        tape.addNumber(a);
        tape.addNumber(b);
        tape.addNumber(c);
        return tape.length;
    }

    public int trim(int n) {
        if (!within(n, 0, tape.length)) {
            return BAD;
        }
        tape.length = n;
        return n;
    }

    public int text() {
        boolean good = tape.readText();
        int fault = tape.start;
        tape.length = 0;
        if (!good) {
            return -100 - fault;
        }
        if (now.texts >= MOST_TEXTS) {
            return FULL;
        }
        int number = now.texts;
        laws.write(number, tape);
        now.lawFor[tape.key] = number;
        now.texts++;
        return number;
    }

    public int textTold(int text, int what) {
        if (!within(text, 0, now.texts - 1) || !within(what, 0, 1)) {
            return BAD;
        }
        return what == 0 ? laws.keys[text] : laws.leaves[text];
    }

    public int why(int key) {
        if (!within(key, 0, KEYS - 1)) {
            return BAD;
        }
        return now.lawFor[key] < 0 ? NONE : now.lawFor[key];
    }

    // ---- sheets, slots

    public int sheet(int sheet, int sort, int n) {
        if (!isSheet(sheet) || !within(sort, MISSING, FLOATS)) {
            return BAD;
        }
        if (sort == MISSING) {
            sheets[sheet].begin(MISSING, 0);
            return 0;
        }
        if (n > MOST_PLACES) {
            return BAD;
        }
        if (n < 0) {
            return SIZE;
        }
        sheets[sheet].begin(sort, n);
        return n;
    }

    public int mark(int sheet, int place, int v) {
        if (!isSheet(sheet)) {
            return BAD;
        }
        Row row = sheets[sheet];
        if (row.isMissing()) {
            return NOTHING;
        }
        if (!row.hasPlace(place)) {
            return INDEX;
        }
        if (row.sort == SHORTS && v == NONE) {
            return KIND;
        }
        if (row.sort == FLOATS && v != NONE && !within(v, -99999, 99999)) {
            return BAD;
        }
        row.places[place] = row.sort == SHORTS ? (short) v : v;
        return 1;
    }

    public int pour(int sheet) {
        if (!isSheet(sheet)) {
            return BAD;
        }
        Row row = sheets[sheet];
        if (row.isMissing()) {
            return NOTHING;
        }
        int otherwise = 0;
        for (int i = 0; i < now.things && i < row.size; i++) {
            if (row.isNumber(i)) {
                int amount = held(row.places[i], MOST_AMOUNT);
                otherwise += now.amounts[i] == amount ? 0 : 1;
                now.amounts[i] = amount;
            }
        }
        return otherwise;
    }

    public int reads(int sheet) {
        if (!isSheet(sheet)) {
            return BAD;
        }
        Row row = sheets[sheet];
        if (row.isMissing()) {
            return NOTHING;
        }
        thought.become(now);
        for (int k = 0; k < row.size; k++) {
            if (row.isNumber(k) && row.places[k] != thought.tasteOfAll()) {
                return k;
            }
            thought.passDay();
        }
        return NONE;
    }

    public int copy(int from, int place, int to, int at, int many) {
        if (!isSheet(from) || !isSheet(to)) {
            return BAD;
        }
        Row source = sheets[from];
        Row target = sheets[to];
        if (source.isMissing() || target.isMissing()) {
            return NOTHING;
        }
        if (source.sort != target.sort) {
            return KIND;
        }
        if (!source.hasPlaces(place, many) || !target.hasPlaces(at, many)) {
            return INDEX;
        }
        System.arraycopy(source.places, place, target.places, at, many);
        return many;
    }

    public int lay(int slot, int thing, int k) {
        if (!isSlot(slot) || !within(thing, HOLDS_NOTHING, HOLDS_NUMBER)) {
            return BAD;
        }
        if (thing == HOLDS_THING && !now.has(k) || thing == HOLDS_SHEET && !isSheet(k)) {
            return BAD;
        }
        if (thing == HOLDS_SHEET && sheets[k].isMissing()) {
            return NOTHING;
        }
        Slot it = slots[slot];
        int was = it.holds;
        it.holds = thing;
        if (thing == HOLDS_THING) {
            it.kind = now.kinds[k];
            it.strong = now.strongs[k];
        } else if (thing == HOLDS_SHEET) {
            it.row.become(sheets[k]);
        } else if (thing == HOLDS_NUMBER) {
            it.number = k;
        }
        return was;
    }

    public int ask(int slot, int kind) {
        if (!isSlot(slot) || !within(kind, 0, KINDS - 1)) {
            return BAD;
        }
        Slot it = slots[slot];
        if (it.holds == HOLDS_NOTHING) {
            return NOTHING;
        }
        if (it.holds != HOLDS_THING || !isOfKind(it.kind, kind)) {
            return KIND;
        }
        return worthOf(it.kind, it.strong);
    }

    public int item(int slot, int place) {
        if (!isSlot(slot)) {
            return BAD;
        }
        Slot it = slots[slot];
        if (it.holds == HOLDS_NOTHING) {
            return NOTHING;
        }
        if (it.holds != HOLDS_SHEET) {
            return KIND;
        }
        if (!it.row.hasPlace(place)) {
            return INDEX;
        }
        return it.row.isNumber(place) ? it.row.places[place] : KIND;
    }

    public int rest(int slot, int n) {
        if (!isSlot(slot)) {
            return BAD;
        }
        Slot it = slots[slot];
        if (it.holds == HOLDS_NOTHING) {
            return NOTHING;
        }
        if (it.holds != HOLDS_NUMBER) {
            return KIND;
        }
        return n == 0 ? NO : it.number % n;
    }

    // ---- rows, images

    public int tell(int v) {
        if (waitingCount >= MOST_WAITING) {
            return FULL;
        }
        waiting[waitingCount] = v;
        waitingCount++;
        return waitingCount;
    }

    public int check(int n) {
        int answer;
        if (!within(n, 1, 30)) {
            answer = BAD;
        } else if (!imageKept) {
            answer = NO;
        } else {
            answer = firstUntrue(Math.min(n, LAST_DAY - image.day));
        }
        waitingCount = 0;
        return answer;
    }

    /** 0 if what waits is just the days told, else 1 and the place of the first that is not. */
    private int firstUntrue(int days) {
        thought.become(image);
        int place = 0;
        for (int i = 0; i < days; i++) {
            thought.passDay();
            if (!waitsAt(place, thought.tasteOfAll())) {
                return 1 + place;
            }
            if (!waitsAt(place + 1, thought.amountOfAll())) {
                return 2 + place;
            }
            place += 2;
        }
        return place == waitingCount ? 0 : 1 + place;
    }

    private boolean waitsAt(int place, int v) {
        return place < waitingCount && waiting[place] == v;
    }

    public int keep() {
        image.become(now);
        imageKept = true;
        return now.things;
    }

    public int back() {
        if (!imageKept) {
            return NO;
        }
        now.become(image);
        return now.things;
    }

    public int count(int what) {
        switch (what) {
            case 0: return now.things;
            case 1: return now.day;
            case 2: return now.potSize;
            case 3: return now.bowls;
            case 4: return now.texts;
            case 5: return waitingCount;
            case 6: return tape.length;
            case 7: return now.z;
            default: return BAD;
        }
    }

    // ---- what all of them use

    private static boolean within(int v, int least, int most) {
        return v >= least && v <= most;
    }

    /** v, held within 0 .. most. */
    private static int held(int v, int most) {
        return Math.max(0, Math.min(v, most));
    }

    private static boolean isSheet(int sheet) {
        return within(sheet, 0, SHEETS - 1);
    }

    private static boolean isSlot(int slot) {
        return within(slot, 0, SLOTS - 1);
    }

    private static int exchange(int[] row, int place, int v) {
        int was = row[place];
        row[place] = v;
        return was;
    }

    /** Whether a kind is another one, or stands under it. */
    private static boolean isOfKind(int kind, int other) {
        int at = kind;
        for (int step = 0; step < KINDS && within(at, 0, KINDS - 1); step++) {
            if (at == other) {
                return true;
            }
            at = ABOVE[at];
        }
        return false;
    }

    private static int worthOf(int kind, int strong) {
        switch (kind) {
            case BONE: return strong + 9;
            case MARROW: return 2 * (strong + 9);
            case HERB: return 40 - strong;
            case LEAF: return 40 - strong - 3;
            case SALT: return 60;
            default: return strong;
        }
    }

    /** All that an image keeps; it is also what is thought with. */
    private static final class Stock {
        final Laws laws;
        final int[] kinds = new int[MOST_THINGS];
        final int[] strongs = new int[MOST_THINGS];
        final int[] amounts = new int[MOST_THINGS];
        final int[] ages = new int[MOST_THINGS];
        /** Of each key the text that counts, -1 without. */
        final int[] lawFor = {-1, -1, -1};
        int things = 0;
        int potSize = 100;
        int bowls = 20;
        int day = 0;
        int taken = 0;
        int gone = 0;
        int z = 1;
        int texts = 0;

        Stock(Laws laws) {
            this.laws = laws;
        }

        void become(Stock other) {
            System.arraycopy(other.kinds, 0, kinds, 0, MOST_THINGS);
            System.arraycopy(other.strongs, 0, strongs, 0, MOST_THINGS);
            System.arraycopy(other.amounts, 0, amounts, 0, MOST_THINGS);
            System.arraycopy(other.ages, 0, ages, 0, MOST_THINGS);
            System.arraycopy(other.lawFor, 0, lawFor, 0, KEYS);
            things = other.things;
            potSize = other.potSize;
            bowls = other.bowls;
            day = other.day;
            taken = other.taken;
            gone = other.gone;
            z = other.z;
            texts = other.texts;
        }

        boolean has(int i) {
            return i >= 0 && i < things;
        }

        /** The caller has seen that there is room. */
        int addThing(int kind, int strong, int amount) {
            int i = things;
            kinds[i] = kind;
            strongs[i] = strong;
            amounts[i] = amount;
            ages[i] = 0;
            things++;
            return i;
        }

        void drawThing() {
            int kind = draw() % KINDS;
            int strong = 1 + draw() % 9;
            int amount = draw() % 1000;
            addThing(kind, strong, amount);
        }

        private int draw() {
            z = z * 1103515245 + 12345;
            return z >>> 8;
        }

        void throwIn(int i, int more) {
            amounts[i] = Math.min(amounts[i] + more, MOST_AMOUNT);
        }

        /** What days change of one thing is as in another stock again. */
        void resetThing(Stock other, int i) {
            amounts[i] = other.amounts[i];
            ages[i] = other.ages[i];
        }

        void halveAll() {
            for (int i = 0; i < things; i++) {
                amounts[i] /= 2;
            }
        }

        void passDays(int n) {
            for (int i = 0; i < n; i++) {
                passDay();
            }
        }

        void passDay() {
            for (int i = 0; i < things; i++) {
                passDayOf(i);
            }
            day++;
        }

        void passDaysOf(int i, int n) {
            for (int k = 0; k < n; k++) {
                passDayOf(i);
            }
        }

        /** Each thing goes by itself, so its whole day may come ahead of the next one's. */
        void passDayOf(int i) {
            int takes = amounts[i];
            if (potSize > 0 && bowls < potSize) {
                takes = amounts[i] * bowls / potSize;
            }
            amounts[i] -= takes;
            taken += takes;
            int wears = wearsOf(i);
            amounts[i] -= wears;
            gone += wears;
            ages[i] = amounts[i] > 0 ? Math.min(ages[i] + 1, MOST_AGE) : 0;
        }

        int wearsOf(int i) {
            switch (kinds[i]) {
                case BONE: return amounts[i] / 100;
                case MARROW: return amounts[i] / 100;
                case HERB: return wearsAsHerb(i);
                case LEAF: return Math.min(2 * wearsAsHerb(i), amounts[i]);
                default: return 0;
            }
        }

        private int wearsAsHerb(int i) {
            return Math.min(amounts[i] / 20 + 1, amounts[i]);
        }

        int tasteOf(int i) {
            switch (kinds[i]) {
                case BONE: return tasteAsBone(i);
                case MARROW: return 2 * tasteAsBone(i);
                case HERB: return tasteAsHerb(i);
                case LEAF: return tasteAsHerb(i) / 2;
                case SALT: return 2 * tasteAsThing(i);
                default: return tasteAsThing(i);
            }
        }

        private int tasteAsThing(int i) {
            return amounts[i] * strongs[i] / 100;
        }

        private int tasteAsBone(int i) {
            int old = amounts[i] > 0 ? Math.min(ages[i], 30) : 0;
            return tasteAsThing(i) + old;
        }

        /** What fades is held ahead of the minus: the difference itself could wrap. */
        private int tasteAsHerb(int i) {
            int fresh = tasteAsThing(i);
            if (fresh == 0) {
                return 0;
            }
            int law = lawFor[FADE];
            int fades = law < 0 ? ages[i] * 2 : laws.workOut(law, amounts[i], ages[i], fresh);
            return fresh - held(fades, fresh);
        }

        int billOf(int i) {
            int law = lawFor[BILL];
            int own = tasteOf(i);
            return law < 0 ? own : laws.workOut(law, own, worthOf(kinds[i], strongs[i]), 0);
        }

        int shareOf(int i) {
            int all = amountOfAll();
            return all == 0 ? 0 : (int) (10000L * amounts[i] / all);
        }

        int tasteOfAll() {
            int sum = 0;
            for (int i = 0; i < things; i++) {
                sum += tasteOf(i);
            }
            return sum;
        }

        int amountOfAll() {
            int sum = 0;
            for (int i = 0; i < things; i++) {
                sum += amounts[i];
            }
            return sum;
        }
    }

    /**
     * The texts, as rows of steps that work on a stack. Now and the image share them: texts go away
     * by back() alone, down to the image's, so no text is ever written over one that the image has.
     */
    private static final class Laws {
        /** Steps from 0 on are numbers, these three are the key's names, other signs stand as minus themselves. */
        static final int FIRST_NAME = -1;
        static final int LAST_NAME = -3;

        final int[][] steps = new int[MOST_TEXTS][MOST_TAPE];
        final int[] lengths = new int[MOST_TEXTS];
        final int[] keys = new int[MOST_TEXTS];
        final int[] leaves = new int[MOST_TEXTS];
        final int[] stack = new int[MOST_TAPE];

        void write(int law, Tape tape) {
            System.arraycopy(tape.steps, 0, steps[law], 0, tape.stepCount);
            lengths[law] = tape.stepCount;
            keys[law] = tape.key;
            leaves[law] = tape.leafCount;
        }

        /** What a text gives, with the values of its key's names in their order. */
        int workOut(int law, int first, int second, int third) {
            int[] row = steps[law];
            int top = 0;
            stack[0] = 0;
            for (int i = 0; i < lengths[law]; i++) {
                int step = row[i];
                if (step >= LAST_NAME && top < MOST_TAPE) {
                    stack[top] = step >= 0 ? step : step == FIRST_NAME ? first : step == LAST_NAME ? third : second;
                    top++;
                } else if (step == -'!' && top >= 1) {
                    stack[top - 1] = stack[top - 1] == 0 ? 1 : 0;
                } else if (top >= 2) {
                    top--;
                    stack[top - 1] = join(-step, stack[top - 1], stack[top]);
                }
            }
            return stack[0];
        }

        private static int join(int sign, int left, int right) {
            switch (sign) {
                case '|': return left != 0 || right != 0 ? 1 : 0;
                case '&': return left != 0 && right != 0 ? 1 : 0;
                case '<': return left < right ? 1 : 0;
                case '=': return left == right ? 1 : 0;
                case '>': return left > right ? 1 : 0;
                case '+': return left + right;
                case '-': return left - right;
                case '*': return left * right;
                default: return right == 0 ? 0 : left / right;
            }
        }
    }

    /** The tape, and what is read from it: one word or sign ahead, each rule of a text by one method. */
    private static final class Tape {
        /** What is ahead, if it is no sign: signs are bytes, 0 and more. */
        static final int END = -1;
        static final int WORD = -2;
        static final int NUMBER = -3;
        static final int SPOILT = -4;
        static final int MOST_OPEN = 8;

        final byte[] bytes = new byte[MOST_TAPE];
        final int[] steps = new int[MOST_TAPE];
        int length = 0;
        int ahead = END;
        /** The first byte of what is ahead, and the place behind its last. */
        int start = 0;
        int end = 0;
        int key = FADE;
        int stepCount = 0;
        int leafCount = 0;

        void addNumber(int v) {
            for (int shift = 24; shift >= 0; shift -= 8) {
                if (length < MOST_TAPE) {
                    bytes[length] = (byte) (v >> shift);
                    length++;
                }
            }
        }

        /** Whether the tape is a text; if not, start is the place of its fault. */
        boolean readText() {
            end = 0;
            ahead = END;
            stepCount = 0;
            leafCount = 0;
            next();
            if (!readKey()) {
                return false;
            }
            next();
            return readOr(0, 0) && ahead == END;
        }

        private void next() {
            boolean behindWord = ahead == WORD || ahead == NUMBER;
            start = end;
            while (start < length && bytes[start] == ' ') {
                start++;
            }
            boolean glued = behindWord && start == end;
            end = start;
            if (start >= length) {
                ahead = END;
            } else if (isLetter(start)) {
                while (end < length && isLetter(end)) {
                    end++;
                }
                ahead = glued ? SPOILT : WORD;
            } else if (isDigit(start)) {
                while (end < length && isDigit(end)) {
                    end++;
                }
                ahead = glued || end - start > 4 ? SPOILT : NUMBER;
            } else {
                ahead = bytes[start] & 255;
                end++;
            }
        }

        private boolean isLetter(int place) {
            return bytes[place] >= 'a' && bytes[place] <= 'z';
        }

        private boolean isDigit(int place) {
            return bytes[place] >= '0' && bytes[place] <= '9';
        }

        private boolean readKey() {
            for (int i = 0; i < KEYS; i++) {
                if (ahead == WORD && isWord(keyWord(i))) {
                    key = i;
                    return true;
                }
            }
            return false;
        }

        private static String keyWord(int key) {
            return key == FADE ? "fade" : key == BILL ? "bill" : "lot";
        }

        /** The names of a key, in the order in which their values are given. */
        private static String namesOf(int key) {
            return key == FADE ? "agt" : key == BILL ? "tw" : "dt";
        }

        private boolean isWord(String word) {
            if (end - start != word.length()) {
                return false;
            }
            for (int i = 0; i < word.length(); i++) {
                if (bytes[start + i] != word.charAt(i)) {
                    return false;
                }
            }
            return true;
        }

        private boolean readOr(int parens, int nots) {
            boolean good = readAnd(parens, nots);
            for (int i = 0; i < MOST_TAPE && good && ahead == '|'; i++) {
                next();
                good = readAnd(parens, nots);
                emit(-'|');
            }
            return good;
        }

        private boolean readAnd(int parens, int nots) {
            boolean good = readTest(parens, nots);
            for (int i = 0; i < MOST_TAPE && good && ahead == '&'; i++) {
                next();
                good = readTest(parens, nots);
                emit(-'&');
            }
            return good;
        }

        private boolean readTest(int parens, int nots) {
            if (!readSum(parens, nots)) {
                return false;
            }
            int sign = ahead;
            if (sign != '<' && sign != '=' && sign != '>') {
                return true;
            }
            next();
            boolean good = readSum(parens, nots);
            emit(-sign);
            return good;
        }

        private boolean readSum(int parens, int nots) {
            boolean good = readTerm(parens, nots);
            for (int i = 0; i < MOST_TAPE && good && (ahead == '+' || ahead == '-'); i++) {
                int sign = ahead;
                next();
                good = readTerm(parens, nots);
                emit(-sign);
            }
            return good;
        }

        private boolean readTerm(int parens, int nots) {
            boolean good = readPiece(parens, nots);
            for (int i = 0; i < MOST_TAPE && good && (ahead == '*' || ahead == '/'); i++) {
                int sign = ahead;
                next();
                good = readPiece(parens, nots);
                emit(-sign);
            }
            return good;
        }

        private boolean readPiece(int parens, int nots) {
            switch (ahead) {
                case NUMBER:
                    return readLeaf(numberAhead());
                case WORD:
                    return nameAhead() >= 0 && readLeaf(Laws.FIRST_NAME - nameAhead());
                case '!':
                    return nots < MOST_OPEN && readNot(parens, nots + 1);
                case '(':
                    return parens < MOST_OPEN && readInner(parens + 1, nots);
                default:
                    return false;
            }
        }

        private boolean readLeaf(int step) {
            emit(step);
            leafCount++;
            next();
            return true;
        }

        private boolean readNot(int parens, int nots) {
            next();
            boolean good = readPiece(parens, nots);
            emit(-'!');
            return good;
        }

        private boolean readInner(int parens, int nots) {
            next();
            if (!readOr(parens, nots) || ahead != ')') {
                return false;
            }
            next();
            return true;
        }

        /** The place of the name ahead among those of the key, below 0 if it is none of them. */
        private int nameAhead() {
            return end - start == 1 ? namesOf(key).indexOf((char) bytes[start]) : -1;
        }

        private int numberAhead() {
            int v = 0;
            for (int i = start; i < end; i++) {
                v = v * 10 + (bytes[i] - '0');
            }
            return v;
        }

        /** Each step stands for a word or sign of its own, so there is always room; a row is looked at all the same. */
        private void emit(int step) {
            if (stepCount < MOST_TAPE) {
                steps[stepCount] = step;
                stepCount++;
            }
        }
    }

    /** A sheet; a place that is no number is NONE, which no short and no float in it can be. */
    private static final class Row {
        final int[] places = new int[MOST_PLACES];
        int sort = MISSING;
        int size = 0;

        boolean isMissing() {
            return sort == MISSING;
        }

        boolean hasPlace(int place) {
            return place >= 0 && place < size;
        }

        /** Written so that no sum can wrap. */
        boolean hasPlaces(int place, int many) {
            return place >= 0 && many >= 0 && place <= size && many <= size - place;
        }

        boolean isNumber(int place) {
            return places[place] != NONE;
        }

        void begin(int newSort, int newSize) {
            sort = newSort;
            size = newSize;
            for (int i = 0; i < MOST_PLACES; i++) {
                places[i] = 0;
            }
        }

        void become(Row other) {
            sort = other.sort;
            size = other.size;
            System.arraycopy(other.places, 0, places, 0, MOST_PLACES);
        }
    }

    private static final class Slot {
        final Row row = new Row();
        int holds = HOLDS_NOTHING;
        int kind = THING;
        int strong = 0;
        int number = 0;
    }
}
