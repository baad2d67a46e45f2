/**
 * A roadless land in which the only maps are on people: ../shared/DOC.md says what each call answers.
 *
 * What is thought goes on in a second Land that is laid over at each call, and what is kept in a third one:
 * so no call makes an object, and a run stays within its room.
 */
public final class TattooRoads {
    public static final int BAD = -1000000001, NO = -1000000002, FULL = -1000000003, NONE = -1000000005, NOTHING = -1000000011, KIND = -1000000012, INDEX = -1000000013, SIZE = -1000000014;

    private static final int PLACES = 10, MOST_WAYS = 14, MOST_PEOPLE = 8, OLDEST = 99, LAST_DAY = 9999;
    private static final int MOST_BYTES = 96, FED_BYTES = 12, MOST_TEXTS = 14, MOST_WAITING = 60;
    private static final int SHEETS = 4, SLOTS = 5, MOST_SHEET_PLACES = 24, MOST_OF_FLOATS = 99999;
    private static final int LONGEST_THOUGHT = 60, LONGEST_WAIT = 200;

    private static final int ONE = 0, GUIDE = 1, CHILD = 2, ELDER = 3, TWIN = 4, FORGER = 5, KINDS = 6;
    private static final int[] KIND_ABOVE = {-1, ONE, ONE, GUIDE, CHILD, ONE};
    private static final int ODD_WAYS = 0x2AAA, WAYS_BY_THREE = 0x1249;

    private static final int URGE = 0, FEE = 1, FINE = 2, KEYS = 3;
    private static final int NAME_CODE = 10000, SIGN_CODE = 20000;

    private static final int MISSING = -1, SHORTS = 0, FLOATS = 1;
    private static final int HOLDS_NOTHING = 0, HOLDS_ONE = 1, HOLDS_SHEET = 2, HOLDS_NUMBER = 3;

    private final Laws laws;
    private final Tape tape;
    private final Land now;
    private final Land thought;
    private final Land image;
    private boolean imageKept;
    private final Walks walks;
    private final int[] alike;
    private final Sheet[] sheets;
    private final Slot[] slots;
    private final int[] waiting;
    private int waits;

    public TattooRoads() {
        laws = new Laws();
        tape = new Tape();
        now = new Land(laws);
        thought = new Land(laws);
        image = new Land(laws);
        walks = new Walks();
        alike = new int[MOST_PEOPLE];
        waiting = new int[MOST_WAITING];
        sheets = new Sheet[SHEETS];
        for (int i = 0; i < SHEETS; i++) {
            sheets[i] = new Sheet();
        }
        slots = new Slot[SLOTS];
        for (int i = 0; i < SLOTS; i++) {
            slots[i] = new Slot();
        }
    }

    // ---- people, ways

    public int one(int kind, int place, int age) {
        if (!isKind(kind) || !isPlace(place) || age < 0 || age > OLDEST) {
            return BAD;
        }
        return now.addOne(kind, place, age, 0);
    }

    public int way(int from, int to) {
        if (!isPlace(from) || !isPlace(to) || from == to) {
            return BAD;
        }
        return now.addWay(from, to);
    }

    public int told(int one, int what) {
        if (!isOne(one)) {
            return BAD;
        }
        switch (what) {
            case 0:
                return now.kinds[one];
            case 1:
                return now.places[one];
            case 2:
                return now.ages[one];
            case 3:
                return now.skins[one];
            case 4:
                return now.readBy(one, now.places[one]);
            case 5:
                return now.urgeOf(one);
            case 6:
                return Kinds.worth(now.kinds[one], now.skins[one]);
            default:
                return BAD;
        }
    }

    public int as(int one, int kind) {
        if (!isOne(one) || !isKind(kind)) {
            return BAD;
        }
        return Kinds.isUnder(now.kinds[one], kind) ? now.places[one] : KIND;
    }

    public int turns(int one, int kind) {
        if (!isOne(one) || !isKind(kind)) {
            return BAD;
        }
        int was = now.kinds[one];
        now.kinds[one] = kind;
        return was;
    }

    public int set(int one, int what, int v) {
        if (!isOne(one)) {
            return BAD;
        }
        if (what == 1 && isPlace(v)) {
            int was = now.places[one];
            now.places[one] = v;
            return was;
        }
        if (what == 2 && v >= 0 && v <= OLDEST) {
            int was = now.ages[one];
            now.ages[one] = v;
            return was;
        }
        return BAD;
    }

    public int ink(int one, int way) {
        if (!isOne(one) || !isWay(way)) {
            return BAD;
        }
        if (has(now.skins[one], way)) {
            return NO;
        }
        now.skins[one] |= 1 << way;
        return Integer.bitCount(now.skins[one]);
    }

    public int scar(int one, int way) {
        if (!isOne(one) || !isWay(way)) {
            return BAD;
        }
        if (!has(now.skins[one], way)) {
            return NO;
        }
        now.skins[one] &= ~(1 << way);
        return Integer.bitCount(now.skins[one]);
    }

    public int about(int way, int what) {
        if (!isWay(way)) {
            return BAD;
        }
        switch (what) {
            case 0:
                return now.froms[way];
            case 1:
                return now.tos[way];
            case 2:
                return has(now.standing, way) ? 1 : 0;
            case 3:
                return now.bearersOf(way);
            default:
                return BAD;
        }
    }

    public int slides(int way) {
        if (!isWay(way)) {
            return BAD;
        }
        int stood = has(now.standing, way) ? 1 : 0;
        now.standing ^= 1 << way;
        return stood;
    }

    public int at(int place) {
        return isPlace(place) ? now.peopleIn(place) : BAD;
    }

    public int rule(int what, int v) {
        if (v < 0 || v > 100) {
            return BAD;
        }
        if (what == 0) {
            int was = now.wanders;
            now.wanders = v;
            return was;
        }
        if (what == 1) {
            int was = now.slips;
            now.slips = v;
            return was;
        }
        return BAD;
    }

    public int deal(int n) {
        if (n < 1 || n > MOST_PEOPLE) {
            return BAD;
        }
        int come = Math.min(n, MOST_PEOPLE - now.people);
        for (int i = 0; i < come; i++) {
            now.addDrawn();
        }
        return come;
    }

    public int seed(int v) {
        int was = now.z;
        now.z = v;
        return was;
    }

    // ---- days, companies

    public int days(int n) {
        if (n < 1 || n > 100) {
            return BAD;
        }
        int before = now.walked;
        now.passDays(Math.min(n, LAST_DAY - now.day));
        return now.walked - before;
    }

    public int land(int what) {
        switch (what) {
            case 0:
                return now.walked;
            case 1:
                return now.inked;
            case 2:
                return now.faded;
            case 3:
                return now.waysBorne();
            case 4:
                return now.standing;
            case 5:
                return now.allWays() & ~now.skinsOf(now.everyone());
            default:
                return BAD;
        }
    }

    public int journey(int people, int from, int to) {
        if ((people & ~now.everyone()) != 0 || !isPlace(from) || !isPlace(to)) {
            return BAD;
        }
        walks.look(now);
        return walks.fewestWays(people, from, to);
    }

    public int reach(int one) {
        if (!isOne(one)) {
            return BAD;
        }
        walks.look(now);
        return walks.reached(1 << one, now.places[one]);
    }

    public int company(int from, int to, int what) {
        if (!isPlace(from) || !isPlace(to) || what < 0 || what > 1) {
            return BAD;
        }
        walks.look(now);
        int fewest = walks.fewestOf(now.peopleIn(from), from, to);
        return what == 0 || fewest == NONE ? fewest : Integer.bitCount(fewest);
    }

    public int regiment(int what) {
        if (what < 0 || what > 1) {
            return BAD;
        }
        int fewest = now.fewestBearers();
        return what == 0 ? fewest : Integer.bitCount(fewest);
    }

    public int dear(int what) {
        if (what < 0 || what > 1) {
            return BAD;
        }
        if (now.people == 0) {
            return NONE;
        }
        int best = 0;
        for (int one = 1; one < now.people; one++) {
            if (now.waysMissed(one) > now.waysMissed(best)) {
                best = one;
            }
        }
        return what == 0 ? best : now.waysMissed(best);
    }

    // ---- what will be

    public int behind(int n, int what) {
        if (n < 0 || n > 100 || what < 0 || what > 3 && !isOne(what - 4)) {
            return BAD;
        }
        thought.take(now);
        thought.passDays(n);
        switch (what) {
            case 0:
                return thought.walked;
            case 1:
                return thought.inked;
            case 2:
                return thought.faded;
            case 3:
                return thought.waysBorne();
            default:
                return thought.places[what - 4];
        }
    }

    public int arrives(int one, int place) {
        if (!isOne(one) || !isPlace(place)) {
            return BAD;
        }
        thought.take(now);
        for (int n = 0; n < LONGEST_WAIT; n++) {
            if (thought.places[one] == place) {
                return n;
            }
            thought.passDays(1);
        }
        return thought.places[one] == place ? LONGEST_WAIT : NONE;
    }

    public int inks(int one, int n, int what) {
        if (!isOne(one) || n < 1 || n > LONGEST_THOUGHT || what < 0 || what > 1) {
            return BAD;
        }
        int best = NONE;
        int most = NONE;
        for (int way = 0; way < now.ways; way++) {
            thought.take(now);
            thought.skins[one] |= 1 << way;
            thought.passDays(n);
            if (thought.walked > most) {
                best = way;
                most = thought.walked;
            }
        }
        return what == 0 ? best : most;
    }

    public int becomes(int one, int n, int what) {
        if (!isOne(one) || n < 1 || n > LONGEST_THOUGHT || what < 0 || what > 1) {
            return BAD;
        }
        int best = 0;
        int most = -1;
        for (int kind = 0; kind < KINDS; kind++) {
            thought.take(now);
            thought.kinds[one] = kind;
            thought.passDays(n);
            int borne = thought.waysBorne();
            if (borne > most) {
                best = kind;
                most = borne;
            }
        }
        return what == 0 ? best : most;
    }

    public int like(int sheet, int what) {
        if (!isSheet(sheet) || what < 0 || what > 1) {
            return BAD;
        }
        if (sheets[sheet].isMissing()) {
            return NOTHING;
        }
        if (now.people == 0) {
            return NONE;
        }
        countAlike(sheets[sheet]);
        int best = 0;
        for (int one = 1; one < now.people; one++) {
            if (alike[one] > alike[best]) {
                best = one;
            }
        }
        return what == 0 ? best : alike[best];
    }

    private void countAlike(Sheet sheet) {
        for (int one = 0; one < MOST_PEOPLE; one++) {
            alike[one] = 0;
        }
        thought.take(now);
        for (int k = 0; k < sheet.size; k++) {
            if (k > 0) {
                thought.passDays(1);
            }
            for (int one = 0; one < now.people; one++) {
                if (sheet.isNumber(k) && sheet.row[k] == thought.places[one]) {
                    alike[one]++;
                }
            }
        }
    }

    public int fee() {
        int text = now.counting[FEE];
        return text == NONE ? now.walked : laws.valueOf(text, now.walked, now.inked, 0);
    }

    public int fine(int one) {
        if (!isOne(one)) {
            return BAD;
        }
        int text = now.counting[FINE];
        int borne = Integer.bitCount(now.skins[one]);
        return text == NONE ? borne : laws.valueOf(text, borne, now.places[one], 0);
    }

    // ---- texts

    public int feed(int a, int b, int c) {
        if (tape.length + FED_BYTES > MOST_BYTES) {
            return FULL;
        }
        tape.add(a);
        tape.add(b);
        tape.add(c);
        return tape.length;
    }

    public int trim(int n) {
        if (n < 0 || n > tape.length) {
            return BAD;
        }
        tape.length = n;
        return n;
    }

    public int text() {
        int fault = tape.faultOfText();
        tape.length = 0;
        if (fault != NONE) {
            return -100 - fault;
        }
        if (now.texts >= MOST_TEXTS) {
            return FULL;
        }
        int number = now.texts;
        laws.take(number, tape);
        now.counting[tape.key] = number;
        now.texts++;
        return number;
    }

    public int textTold(int text, int what) {
        if (text < 0 || text >= now.texts || what < 0 || what > 1) {
            return BAD;
        }
        return what == 0 ? laws.keys[text] : laws.operands[text];
    }

    public int why(int key) {
        return key < 0 || key >= KEYS ? BAD : now.counting[key];
    }

    // ---- sheets, slots

    public int sheet(int sheet, int sort, int n) {
        if (!isSheet(sheet) || sort < MISSING || sort > FLOATS) {
            return BAD;
        }
        if (sort == MISSING) {
            sheets[sheet].become(MISSING, 0);
            return 0;
        }
        if (n > MOST_SHEET_PLACES) {
            return BAD;
        }
        if (n < 0) {
            return SIZE;
        }
        sheets[sheet].become(sort, n);
        return n;
    }

    public int mark(int sheet, int place, int v) {
        if (!isSheet(sheet)) {
            return BAD;
        }
        Sheet marked = sheets[sheet];
        if (marked.isMissing()) {
            return NOTHING;
        }
        if (!marked.hasPlace(place)) {
            return INDEX;
        }
        if (marked.sort == SHORTS) {
            if (v == NONE) {
                return KIND;
            }
            marked.row[place] = (short) v;
            return 1;
        }
        if (v != NONE && (v < -MOST_OF_FLOATS || v > MOST_OF_FLOATS)) {
            return BAD;
        }
        marked.row[place] = v;
        return 1;
    }

    public int pour(int sheet) {
        if (!isSheet(sheet)) {
            return BAD;
        }
        Sheet poured = sheets[sheet];
        if (poured.isMissing()) {
            return NOTHING;
        }
        int otherwise = 0;
        for (int one = 0; one < now.people; one++) {
            if (poured.isNumber(one)) {
                int age = within(poured.row[one], OLDEST);
                otherwise += age == now.ages[one] ? 0 : 1;
                now.ages[one] = age;
            }
        }
        return otherwise;
    }

    public int reads(int sheet) {
        if (!isSheet(sheet)) {
            return BAD;
        }
        Sheet read = sheets[sheet];
        if (read.isMissing()) {
            return NOTHING;
        }
        for (int k = 0; k < read.size; k++) {
            if (read.isNumber(k) && (!isOne(k) || read.row[k] != Integer.bitCount(now.skins[k]))) {
                return k;
            }
        }
        return NONE;
    }

    public int copy(int from, int place, int to, int at, int many) {
        if (!isSheet(from) || !isSheet(to)) {
            return BAD;
        }
        Sheet source = sheets[from];
        Sheet goal = sheets[to];
        if (source.isMissing() || goal.isMissing()) {
            return NOTHING;
        }
        if (source.sort != goal.sort) {
            return KIND;
        }
        if (!source.hasPlaces(place, many) || !goal.hasPlaces(at, many)) {
            return INDEX;
        }
        System.arraycopy(source.row, place, goal.row, at, many);
        return many;
    }

    public int lay(int slot, int thing, int k) {
        if (!isSlot(slot) || thing < HOLDS_NOTHING || thing > HOLDS_NUMBER) {
            return BAD;
        }
        if (thing == HOLDS_ONE && !isOne(k) || thing == HOLDS_SHEET && !isSheet(k)) {
            return BAD;
        }
        if (thing == HOLDS_SHEET && sheets[k].isMissing()) {
            return NOTHING;
        }
        Slot laid = slots[slot];
        int held = laid.holds;
        laid.holds = thing;
        if (thing == HOLDS_ONE) {
            laid.kind = now.kinds[k];
            laid.skin = now.skins[k];
        } else if (thing == HOLDS_SHEET) {
            laid.sheet.take(sheets[k]);
        } else {
            laid.number = k;
        }
        return held;
    }

    public int ask(int slot, int kind) {
        if (!isSlot(slot) || !isKind(kind)) {
            return BAD;
        }
        Slot asked = slots[slot];
        if (asked.holds == HOLDS_NOTHING) {
            return NOTHING;
        }
        if (asked.holds != HOLDS_ONE || !Kinds.isUnder(asked.kind, kind)) {
            return KIND;
        }
        return Kinds.worth(asked.kind, asked.skin);
    }

    public int item(int slot, int place) {
        if (!isSlot(slot)) {
            return BAD;
        }
        Slot asked = slots[slot];
        if (asked.holds == HOLDS_NOTHING) {
            return NOTHING;
        }
        if (asked.holds != HOLDS_SHEET) {
            return KIND;
        }
        if (!asked.sheet.hasPlace(place)) {
            return INDEX;
        }
        return asked.sheet.isNumber(place) ? asked.sheet.row[place] : KIND;
    }

    public int rest(int slot, int n) {
        if (!isSlot(slot)) {
            return BAD;
        }
        Slot asked = slots[slot];
        if (asked.holds == HOLDS_NOTHING) {
            return NOTHING;
        }
        if (asked.holds != HOLDS_NUMBER) {
            return KIND;
        }
        return n == 0 ? NO : asked.number % n;
    }

    // ---- rows, images

    public int tell(int v) {
        if (waits >= MOST_WAITING) {
            return FULL;
        }
        waiting[waits] = v;
        waits++;
        return waits;
    }

    public int check(int n) {
        int told = waits;
        waits = 0;
        if (n < 1 || n > 30) {
            return BAD;
        }
        if (!imageKept) {
            return NO;
        }
        thought.take(image);
        int last = Math.min(n, LAST_DAY - image.day);
        for (int i = 0; i < last; i++) {
            thought.passDays(1);
            if (2 * i >= told || waiting[2 * i] != thought.walked) {
                return 1 + 2 * i;
            }
            if (2 * i + 1 >= told || waiting[2 * i + 1] != thought.waysBorne()) {
                return 2 + 2 * i;
            }
        }
        return told > 2 * last ? 1 + 2 * last : 0;
    }

    public int keep() {
        image.take(now);
        imageKept = true;
        return now.people;
    }

    public int back() {
        if (!imageKept) {
            return NO;
        }
        now.take(image);
        return now.people;
    }

    public int count(int what) {
        switch (what) {
            case 0:
                return now.people;
            case 1:
                return now.day;
            case 2:
                return now.ways;
            case 3:
                return now.wanders;
            case 4:
                return now.slips;
            case 5:
                return now.texts;
            case 6:
                return waits;
            case 7:
                return tape.length;
            case 8:
                return now.z;
            default:
                return BAD;
        }
    }

    // ---- what an argument may be

    private boolean isOne(int one) {
        return one >= 0 && one < now.people;
    }

    private boolean isWay(int way) {
        return way >= 0 && way < now.ways;
    }

    private static boolean isKind(int kind) {
        return kind >= 0 && kind < KINDS;
    }

    private static boolean isPlace(int place) {
        return place >= 0 && place < PLACES;
    }

    private static boolean isSheet(int sheet) {
        return sheet >= 0 && sheet < SHEETS;
    }

    private static boolean isSlot(int slot) {
        return slot >= 0 && slot < SLOTS;
    }

    private static boolean has(int bits, int number) {
        return (bits >> number & 1) != 0;
    }

    private static int within(int v, int most) {
        return Math.max(0, Math.min(v, most));
    }

    /** What a KIND does, each asked by the KIND of one: what is read is asked of the Land. */
    private static final class Kinds {
        static boolean isUnder(int kind, int top) {
            int above = kind;
            for (int i = 0; i < KINDS && above >= 0 && above < KINDS; i++) {
                if (above == top) {
                    return true;
                }
                above = KIND_ABOVE[above];
            }
            return false;
        }

        static boolean learns(int kind) {
            return !isUnder(kind, CHILD);
        }

        static int loses(int kind) {
            switch (kind) {
                case GUIDE:
                    return 0;
                case ELDER:
                    return 2;
                default:
                    return 1;
            }
        }

        static int worth(int kind, int skin) {
            int borne = Integer.bitCount(skin);
            switch (kind) {
                case GUIDE:
                    return borne + 5;
                case ELDER:
                    return 2 * (borne + 5);
                case CHILD:
                    return 40 - borne;
                case TWIN:
                    return 40 - borne - 4;
                case FORGER:
                    return 3;
                default:
                    return borne;
            }
        }
    }

    /** All that an IMAGE keeps; a second one serves for what is only thought. */
    private static final class Land {
        final Laws laws;
        int people;
        final int[] kinds = new int[MOST_PEOPLE];
        final int[] places = new int[MOST_PEOPLE];
        final int[] ages = new int[MOST_PEOPLE];
        final int[] skins = new int[MOST_PEOPLE];
        int ways;
        final int[] froms = new int[MOST_WAYS];
        final int[] tos = new int[MOST_WAYS];
        final int[] touching = new int[PLACES];
        int standing;
        int wanders = 60;
        int slips = 10;
        int walked;
        int inked;
        int faded;
        int day;
        int z = 1;
        int texts;
        final int[] counting = {NONE, NONE, NONE};

        Land(Laws laws) {
            this.laws = laws;
        }

        void take(Land other) {
            people = other.people;
            System.arraycopy(other.kinds, 0, kinds, 0, MOST_PEOPLE);
            System.arraycopy(other.places, 0, places, 0, MOST_PEOPLE);
            System.arraycopy(other.ages, 0, ages, 0, MOST_PEOPLE);
            System.arraycopy(other.skins, 0, skins, 0, MOST_PEOPLE);
            ways = other.ways;
            System.arraycopy(other.froms, 0, froms, 0, MOST_WAYS);
            System.arraycopy(other.tos, 0, tos, 0, MOST_WAYS);
            System.arraycopy(other.touching, 0, touching, 0, PLACES);
            standing = other.standing;
            wanders = other.wanders;
            slips = other.slips;
            walked = other.walked;
            inked = other.inked;
            faded = other.faded;
            day = other.day;
            z = other.z;
            texts = other.texts;
            System.arraycopy(other.counting, 0, counting, 0, KEYS);
        }

        int addOne(int kind, int place, int age, int skin) {
            if (people >= MOST_PEOPLE) {
                return FULL;
            }
            int number = people;
            kinds[number] = kind;
            places[number] = place;
            ages[number] = age;
            skins[number] = skin;
            people++;
            return number;
        }

        void addDrawn() {
            int kind = draw() % KINDS;
            int place = draw() % PLACES;
            int age = draw() % 80;
            int skin = draw() & allWays();
            addOne(kind, place, age, skin);
        }

        int addWay(int from, int to) {
            if (ways >= MOST_WAYS) {
                return FULL;
            }
            int number = ways;
            froms[number] = from;
            tos[number] = to;
            touching[from] |= 1 << number;
            touching[to] |= 1 << number;
            standing |= 1 << number;
            ways++;
            return number;
        }

        int everyone() {
            return (1 << people) - 1;
        }

        int allWays() {
            return (1 << ways) - 1;
        }

        int peopleIn(int place) {
            int set = 0;
            for (int one = 0; one < people; one++) {
                if (places[one] == place) {
                    set |= 1 << one;
                }
            }
            return set;
        }

        int bearersOf(int way) {
            int set = 0;
            for (int one = 0; one < people; one++) {
                if (has(skins[one], way)) {
                    set |= 1 << one;
                }
            }
            return set;
        }

        int skinsOf(int set) {
            int borne = 0;
            for (int one = 0; one < people; one++) {
                if (has(set, one)) {
                    borne |= skins[one];
                }
            }
            return borne;
        }

        int waysBorne() {
            return Integer.bitCount(skinsOf(everyone()));
        }

        int waysMissed(int one) {
            return Integer.bitCount(skins[one] & ~skinsOf(everyone() & ~(1 << one)));
        }

        int fewestBearers() {
            int fewest = everyone();
            int all = skinsOf(fewest);
            for (int set = 0; set < 1 << people; set++) {
                if (Integer.bitCount(set) < Integer.bitCount(fewest) && skinsOf(set) == all) {
                    fewest = set;
                }
            }
            return fewest;
        }

        int readBy(int one, int place) {
            int skin = skins[one];
            switch (kinds[one]) {
                case ELDER:
                    return skin & ~WAYS_BY_THREE;
                case CHILD:
                    return skin & touching[place];
                case TWIN:
                    return skin & (touching[place] | ODD_WAYS);
                case FORGER:
                    return touching[place] & ODD_WAYS;
                default:
                    return skin;
            }
        }

        int readByThoseIn(int place) {
            int read = 0;
            for (int one = 0; one < people; one++) {
                if (places[one] == place) {
                    read |= readBy(one, place);
                }
            }
            return read;
        }

        int otherEnd(int way, int place) {
            return froms[way] == place ? tos[way] : froms[way];
        }

        int urgeOf(int one) {
            int text = counting[URGE];
            if (text == NONE) {
                return wanders;
            }
            return within(laws.valueOf(text, wanders, ages[one], places[one]), 100);
        }

        int draw() {
            z = z * 1103515245 + 12345;
            return z >>> 8;
        }

        void passDays(int n) {
            for (int i = 0; i < n; i++) {
                for (int one = 0; one < people; one++) {
                    wander(one);
                }
                for (int one = 0; one < people; one++) {
                    grow(one);
                }
                slip();
                day++;
            }
        }

        void wander(int one) {
            int chance = draw() % 100;
            if (chance >= urgeOf(one) || ways == 0) {
                return;
            }
            int way = draw() % ways;
            int place = places[one];
            if (!has(touching[place] & standing & readByThoseIn(place), way)) {
                return;
            }
            places[one] = otherEnd(way, place);
            walked++;
            if (Kinds.learns(kinds[one]) && !has(skins[one], way)) {
                skins[one] |= 1 << way;
                inked++;
            }
        }

        void grow(int one) {
            ages[one] = Math.min(ages[one] + 1, OLDEST);
            if (ages[one] % 10 != 0) {
                return;
            }
            int loses = Kinds.loses(kinds[one]);
            for (int i = 0; i < loses && skins[one] != 0; i++) {
                skins[one] &= skins[one] - 1;
                faded++;
            }
        }

        void slip() {
            int chance = draw() % 100;
            if (chance >= slips || ways == 0) {
                return;
            }
            standing ^= 1 << draw() % ways;
        }
    }

    /** Where each of the PEOPLE could go by one WAY from each PLACE: looked up once a call, for many sets. */
    private static final class Walks {
        final int[] nexts = new int[MOST_PEOPLE * PLACES];

        void look(Land land) {
            for (int one = 0; one < MOST_PEOPLE; one++) {
                for (int place = 0; place < PLACES; place++) {
                    nexts[one * PLACES + place] = one < land.people ? nextPlaces(land, one, place) : 0;
                }
            }
        }

        static int nextPlaces(Land land, int one, int place) {
            int open = land.readBy(one, place) & land.touching[place] & land.standing;
            int next = 0;
            for (int way = 0; way < land.ways; way++) {
                if (has(open, way)) {
                    next |= 1 << land.otherEnd(way, place);
                }
            }
            return next;
        }

        int oneWayFurther(int people, int seen) {
            int next = seen;
            for (int one = 0; one < MOST_PEOPLE; one++) {
                for (int place = 0; has(people, one) && place < PLACES; place++) {
                    if (has(seen, place)) {
                        next |= nexts[one * PLACES + place];
                    }
                }
            }
            return next;
        }

        int reached(int people, int from) {
            int seen = 1 << from;
            for (int i = 1; i < PLACES; i++) {
                seen = oneWayFurther(people, seen);
            }
            return seen;
        }

        int fewestWays(int people, int from, int to) {
            int seen = 1 << from;
            for (int i = 0; i < PLACES; i++) {
                if (has(seen, to)) {
                    return i;
                }
                seen = oneWayFurther(people, seen);
            }
            return NONE;
        }

        int fewestOf(int there, int from, int to) {
            if (from == to) {
                return 0;
            }
            if (fewestWays(there, from, to) == NONE) {
                return NONE;
            }
            int fewest = there;
            for (int set = 1; set < there; set++) {
                boolean fewer = (set & ~there) == 0 && Integer.bitCount(set) < Integer.bitCount(fewest);
                if (fewer && fewestWays(set, from, to) != NONE) {
                    fewest = set;
                }
            }
            return fewest;
        }
    }

    /** TEXTS as rows of codes in which a sign stands behind what it joins: a NUMBER is its own code. */
    private static final class Laws {
        final int[][] codes = new int[MOST_TEXTS][MOST_BYTES];
        final int[] sizes = new int[MOST_TEXTS];
        final int[] keys = new int[MOST_TEXTS];
        final int[] operands = new int[MOST_TEXTS];
        final int[] stack = new int[MOST_BYTES];

        // The rows up to an IMAGE's last TEXT stay as they are: what is read now comes behind them.
        void take(int text, Tape read) {
            System.arraycopy(read.codes, 0, codes[text], 0, MOST_BYTES);
            sizes[text] = read.size;
            keys[text] = read.key;
            operands[text] = read.operands;
        }

        int valueOf(int text, int first, int second, int third) {
            if (text < 0 || text >= MOST_TEXTS) {
                return 0;
            }
            int[] row = codes[text];
            int top = 0;
            for (int i = 0; i < sizes[text] && i < row.length; i++) {
                int code = row[i];
                if (code < NAME_CODE && top < stack.length) {
                    stack[top++] = code;
                } else if (code < SIGN_CODE && top < stack.length) {
                    int name = code - NAME_CODE;
                    stack[top++] = name == 0 ? first : name == 1 ? second : third;
                } else if (code == SIGN_CODE + '!' && top > 0) {
                    stack[top - 1] = stack[top - 1] == 0 ? 1 : 0;
                } else if (top > 1) {
                    top--;
                    stack[top - 1] = joined(code - SIGN_CODE, stack[top - 1], stack[top]);
                }
            }
            return stack[0];
        }

        static int joined(int sign, int left, int right) {
            switch (sign) {
                case '|':
                    return left != 0 || right != 0 ? 1 : 0;
                case '&':
                    return left != 0 && right != 0 ? 1 : 0;
                case '<':
                    return left < right ? 1 : 0;
                case '=':
                    return left == right ? 1 : 0;
                case '>':
                    return left > right ? 1 : 0;
                case '+':
                    return left + right;
                case '-':
                    return left - right;
                case '*':
                    return left * right;
                default:
                    return right == 0 ? 0 : left / right;
            }
        }
    }

    /** THE TAPE, and how it is read, a word or sign at a time: where no TEXT goes on, start is at the FAULT. */
    private static final class Tape {
        private static final int END = 0, LETTERS = 1, DIGITS = 2, SIGN = 3, NO_BLANK = 4;
        private static final int OR = 0, AND = 1, TEST = 2, SUM = 3, TERM = 4, PIECE = 5;
        private static final int DEEPEST = 8, MOST_DIGITS = 4;

        final int[] bytes = new int[MOST_BYTES];
        int length;
        final int[] codes = new int[MOST_BYTES];
        int size;
        int operands;
        int key;
        int start;
        int end;
        int sort;

        void add(int four) {
            for (int shift = 24; shift >= 0 && length < MOST_BYTES; shift -= 8) {
                bytes[length] = four >>> shift & 255;
                length++;
            }
        }

        int faultOfText() {
            size = 0;
            operands = 0;
            end = 0;
            sort = END;
            step();
            key = keyRead();
            if (key == NONE) {
                return start;
            }
            step();
            return part(OR, 0, 0) && sort == END ? NONE : start;
        }

        private void step() {
            boolean behindWord = sort == LETTERS || sort == DIGITS;
            int behind = end;
            start = end;
            while (start < length && bytes[start] == ' ') {
                start++;
            }
            end = start;
            sort = sortAt(start);
            if (sort == SIGN) {
                end++;
            }
            while ((sort == LETTERS || sort == DIGITS) && end < length && sortAt(end) == sort) {
                end++;
            }
            if (behindWord && start == behind && (sort == LETTERS || sort == DIGITS)) {
                sort = NO_BLANK;
            }
        }

        private int sortAt(int place) {
            if (place >= length) {
                return END;
            }
            int sign = bytes[place];
            if (sign >= 'a' && sign <= 'z') {
                return LETTERS;
            }
            return sign >= '0' && sign <= '9' ? DIGITS : SIGN;
        }

        private boolean part(int rank, int parens, int nots) {
            return rank < PIECE ? chain(rank, parens, nots) : piece(parens, nots);
        }

        private boolean chain(int rank, int parens, int nots) {
            if (!part(rank + 1, parens, nots)) {
                return false;
            }
            for (int i = 0; i < length && sort == SIGN && joins(rank, bytes[start]); i++) {
                int sign = bytes[start];
                step();
                if (!part(rank + 1, parens, nots)) {
                    return false;
                }
                put(SIGN_CODE + sign);
                if (rank == TEST) {
                    return true;
                }
            }
            return true;
        }

        private boolean piece(int parens, int nots) {
            if (sort == DIGITS || sort == LETTERS) {
                return operand();
            }
            if (sort != SIGN) {
                return false;
            }
            if (bytes[start] == '!' && nots < DEEPEST) {
                step();
                boolean right = part(PIECE, parens, nots + 1);
                put(SIGN_CODE + '!');
                return right;
            }
            if (bytes[start] == '(' && parens < DEEPEST) {
                step();
                if (!part(OR, parens + 1, nots) || sort != SIGN || bytes[start] != ')') {
                    return false;
                }
                step();
                return true;
            }
            return false;
        }

        private boolean operand() {
            int code = sort == DIGITS ? numberRead() : nameRead();
            if (code == NONE) {
                return false;
            }
            put(code);
            operands++;
            step();
            return true;
        }

        private int numberRead() {
            if (end - start > MOST_DIGITS) {
                return NONE;
            }
            int number = 0;
            for (int i = start; i < end; i++) {
                number = 10 * number + bytes[i] - '0';
            }
            return number;
        }

        private int nameRead() {
            String names = key == URGE ? "wao" : key == FEE ? "ki" : "sp";
            int name = end - start == 1 ? names.indexOf((char) bytes[start]) : -1;
            return name < 0 ? NONE : NAME_CODE + name;
        }

        private int keyRead() {
            return isWord("urge") ? URGE : isWord("fee") ? FEE : isWord("fine") ? FINE : NONE;
        }

        private boolean isWord(String word) {
            if (sort != LETTERS || end - start != word.length()) {
                return false;
            }
            for (int i = 0; i < word.length(); i++) {
                if (bytes[start + i] != word.charAt(i)) {
                    return false;
                }
            }
            return true;
        }

        private static boolean joins(int rank, int sign) {
            switch (rank) {
                case OR:
                    return sign == '|';
                case AND:
                    return sign == '&';
                case TEST:
                    return sign == '<' || sign == '=' || sign == '>';
                case SUM:
                    return sign == '+' || sign == '-';
                case TERM:
                    return sign == '*' || sign == '/';
                default:
                    return false;
            }
        }

        private void put(int code) {
            if (size < codes.length) {
                codes[size] = code;
                size++;
            }
        }
    }

    /** A row of shorts or of floats that are whole: NONE stands for NO NUMBER, which no short can be. */
    private static final class Sheet {
        int sort = MISSING;
        int size;
        final int[] row = new int[MOST_SHEET_PLACES];

        boolean isMissing() {
            return sort == MISSING;
        }

        boolean hasPlace(int place) {
            return place >= 0 && place < size;
        }

        boolean hasPlaces(int place, int many) {
            return place >= 0 && many >= 0 && place <= size && many <= size - place;
        }

        boolean isNumber(int place) {
            return hasPlace(place) && row[place] != NONE;
        }

        void become(int newSort, int newSize) {
            sort = newSort;
            size = newSize;
            for (int i = 0; i < MOST_SHEET_PLACES; i++) {
                row[i] = 0;
            }
        }

        void take(Sheet other) {
            sort = other.sort;
            size = other.size;
            System.arraycopy(other.row, 0, row, 0, MOST_SHEET_PLACES);
        }
    }

    /** Holds what it was given as it was then: a SHEET is a row of its own, laid over when another one comes. */
    private static final class Slot {
        int holds = HOLDS_NOTHING;
        int kind;
        int skin;
        final Sheet sheet = new Sheet();
        int number;
    }
}
