/** One pair of spectacles: what is told as texts, and what follows of it. No call makes an object. */
public final class OnePair {
    public static final int NONE = -1;

    private static final int NO_SUCH = -2;

    private static final int VALLEYS = 0;
    private static final int ROUNDS = 1;
    private static final int LEDGERS = 2;
    private static final int LISTS = 3;
    private static final int SORTS = 4;

    private static final int HOUSES = 8;
    private static final int MUSTS = 6;
    private static final int LEGS = 16;
    private static final int DEEDS = 30;
    private static final int ERRORS = 20;
    private static final int SLOTS = 48;
    private static final int WEEK_DAYS = 7;
    private static final int MOST_PACE = 99;
    private static final int TAPE = 600;
    private static final int IMAGES = 3;

    private static final int TOUCH = 0;
    private static final int EYE = 1;
    private static final int COLOUR = 3;

    private static final int HEIGHT = 0;
    private static final int KIND = 1;
    private static final int RATE = 2;
    private static final int BLIND = 3;

    private static final int OWN = 0;
    private static final int SELL = 1;
    private static final int PAWN = 2;
    private static final int BACK = 3;
    private static final int WILL = 4;
    private static final int DIES = 5;

    private final Told told = new Told();
    private final Told[] images = new Told[IMAGES];
    private final boolean[] imaged = new boolean[IMAGES];
    private final Reader reader = new Reader();
    private final Claims claims = new Claims();
    private final Claims others = new Claims();
    private final Walk walk = new Walk();
    private final Plan plan = new Plan();
    private final Trip trip = new Trip();
    private final Trade trade = new Trade();

    public OnePair() {
        for (int k = 0; k < IMAGES; k++) {
            images[k] = new Told();
        }
    }

    // ---- what is told

    public int feed(int a, int b, int c, int d, int e) {
        if (told.length > TAPE - 20) {
            return NONE;
        }
        told.append(a);
        told.append(b);
        told.append(c);
        told.append(d);
        told.append(e);
        return told.length;
    }

    public int end(int n) {
        if (n < 0 || n > told.length) {
            return NONE;
        }
        told.length = n;
        return n;
    }

    public int text(int sort, int at) {
        int number = told.numberFor(sort, at);
        if (number == NO_SUCH) {
            told.takeTape(0, NONE);
            return NO_SUCH;
        }
        reader.read(sort, told.tape, told.length);
        told.takeTape(reader.fault, reader.place);
        if (reader.fault != 0) {
            return NONE;
        }
        told.keep(sort, number, reader);
        return number;
    }

    public int fault(int what) {
        return what == 0 ? told.fault : what == 1 ? told.place : NONE;
    }

    public int valley(int valley, int what) {
        Valley v = told.valleyAt(valley);
        if (v == null) {
            return NONE;
        }
        switch (what) {
            case 0: return v.slots;
            case 1: return v.pace;
            case 2: return v.lightFrom;
            case 3: return v.lightTo;
            case 4: return v.start;
            case 5: return v.houses.count;
            case 6: return v.musts.count;
            default: break;
        }
        return what < 10 || what > 39 ? NONE : v.musts.cell(what % 10, what / 10 - 1);
    }

    public int house(int valley, int house, int what) {
        Valley v = told.valleyAt(valley);
        return v == null ? NONE : v.houses.cell(house, what);
    }

    public int way(int valley, int a, int b, boolean slots) {
        Valley v = told.valleyAt(valley);
        if (v == null || !v.hasHouse(a) || !v.hasHouse(b)) {
            return NONE;
        }
        return slots ? v.slotsBetween(a, b, v.pace) : v.stepsBetween(a, b);
    }

    public int leg(int round, int k, int what) {
        return cellOrCount(told.sheetAt(ROUNDS, round), k, what);
    }

    public int deed(int ledger, int k, int what) {
        return cellOrCount(told.sheetAt(LEDGERS, ledger), k, what);
    }

    public int error(int list, int k, int what) {
        return cellOrCount(told.sheetAt(LISTS, list), k, what);
    }

    public int count(int sort) {
        return sort < 0 || sort >= SORTS ? NO_SUCH : told.counts[sort];
    }

    public boolean image(int k) {
        if (k < 0 || k >= IMAGES) {
            return false;
        }
        images[k].copyFrom(told);
        imaged[k] = true;
        return true;
    }

    public boolean again(int k) {
        if (k < 0 || k >= IMAGES || !imaged[k]) {
            return false;
        }
        told.copyFrom(images[k]);
        return true;
    }

    // ---- rounds

    public int play(int valley, int round, int what) {
        if (!isWalked(valley, round)) {
            return NONE;
        }
        switch (what) {
            case 0: return walk.legs;
            case 1: return walk.allRight(false);
            case 2: return walk.allWrong();
            case 3: return walk.climb;
            case 4: return walk.allRight(true);
            case 5: return walk.allWrong();
            default: return NONE;
        }
    }

    public int where(int valley, int round, int slot) {
        if (!isWalked(valley, round) || slot < 0 || slot >= walk.valley.slots) {
            return NO_SUCH;
        }
        return walk.spot[slot];
    }

    public int row(int valley, int round, int house, int n, int what) {
        if (!isWalked(valley, round) || what < 0 || what > 2) {
            return NO_SUCH;
        }
        int slot = walk.slotOfRow(house, n);
        if (slot == NONE) {
            return NO_SUCH;
        }
        if (what == 0) {
            return slot;
        }
        if (what == 1) {
            return walk.isRight(house, slot) ? 0 : 1;
        }
        return walk.spot[slot];
    }

    public int rows(int valley, int round, int house, int what) {
        if (!isWalked(valley, round) || !walk.valley.hasHouse(house)) {
            return NO_SUCH;
        }
        switch (what) {
            case 0: return walk.rowsBefore(house, walk.valley.slots);
            case 1: return walk.wrongRows(house);
            case 2: return walk.firstWrong(house);
            case 3: return walk.wrongSlots(house);
            default: return NO_SUCH;
        }
    }

    // ---- ledgers

    public int stop(int ledger) {
        Sheet deeds = told.sheetAt(LEDGERS, ledger);
        return deeds == null ? NONE : claims.replay(deeds, deeds.count);
    }

    public int owner(int ledger, int n, int day, int slot, boolean holder) {
        if (!isState(ledger, n) || !isDay(day) || slot < 0 || slot >= SLOTS) {
            return NO_SUCH;
        }
        return holder ? claims.holder[day * SLOTS + slot] : claims.owner[day * SLOTS + slot];
    }

    public int has(int ledger, int n, int house, int what) {
        if (!isState(ledger, n) || house < 0 || house >= HOUSES) {
            return NO_SUCH;
        }
        switch (what) {
            case 0: return claims.slotsOf(claims.owner, house);
            case 1: return claims.slotsOf(claims.holder, house);
            case 2: return claims.heir[house];
            case 3: return claims.dead[house] ? 1 : 0;
            default: return NO_SUCH;
        }
    }

    public int lawful(int valley, int round, int ledger, int n, int day) {
        if (!isState(ledger, n) || !isDay(day) || !isWalked(valley, round)) {
            return NO_SUCH;
        }
        Sheet legs = told.sheetAt(ROUNDS, round);
        for (int k = 0; legs != null && k < walk.legs; k++) {
            if (!mayWorkLeg(legs, k, day)) {
                return k;
            }
        }
        return NONE;
    }

    public int cross(int one, int two) {
        Sheet first = told.sheetAt(LEDGERS, one);
        Sheet second = told.sheetAt(LEDGERS, two);
        if (first == null || second == null) {
            return NONE;
        }
        claims.replay(first, first.count);
        others.replay(second, second.count);
        return claims.slotsHeldUnlike(others);
    }

    // ---- the best plan

    public int best(int valley, int ledger, int n, int day, int days, int what) {
        if (what < 0 || what > 2 || !isLaidOut(valley, ledger, n, day, days)) {
            return NONE;
        }
        plan.fill(what == 2, 0);
        int gain = plan.solve(NONE);
        return what == 1 ? plan.climb() : gain;
    }

    public int spot(int valley, int ledger, int n, int day, int days, int i, int slot) {
        if (!isLaidOut(valley, ledger, n, day, days) || plan.solve(NONE) == NONE) {
            return NO_SUCH;
        }
        if (i < 0 || i >= days || slot < 0 || slot >= plan.valley.slots) {
            return NO_SUCH;
        }
        trip.follow(plan);
        return trip.spot[i * plan.valley.slots + slot];
    }

    public int harm(int valley, int ledger, int n, int day, int house, int f, int t, boolean lender) {
        int most = gainOfDay(valley, ledger, n, day);
        if (most == NONE || !plan.valley.hasHouse(house) || !plan.valley.hasSlots(f, t)) {
            return NO_SUCH;
        }
        if (lender) {
            trip.follow(plan);
            return trip.spot[f];
        }
        plan.reachAll();
        int harm = plan.harmOf(most, house, f, t);
        return harm == NONE ? NO_SUCH : harm;
    }

    public int soon(int valley, int ledger, int n, int day, int house, int slot) {
        int most = gainOfDay(valley, ledger, n, day);
        if (most == NONE || !plan.valley.hasHouse(house) || slot < 0 || slot >= plan.valley.slots) {
            return NO_SUCH;
        }
        trip.follow(plan);
        return trip.free[slot] + plan.valley.slotsBetween(trip.goal[slot], house, plan.valley.pace);
    }

    public int worth(int valley, int ledger, int n, int day, int house, int f, int t) {
        int most = gainOfDay(valley, ledger, n, day);
        if (most == NONE || !plan.valley.hasSlots(f, t) || (house != NONE && !plan.valley.hasHouse(house))) {
            return NO_SUCH;
        }
        return plan.lossOf(most, house, f, t);
    }

    public boolean pays(int valley, int ledger, int n, int day, int house, int f, int t, int odds) {
        int most = gainOfDay(valley, ledger, n, day);
        if (most == NONE || !plan.valley.hasHouse(house) || !plan.valley.hasSlots(f, t)) {
            return false;
        }
        plan.reachAll();
        int harm = plan.harmOf(most, house, f, t);
        if (harm == NONE || odds < 0 || odds > 100) {
            return false;
        }
        return odds * harm > 100 * plan.lossOf(most, NONE, f, t);
    }

    public int deal(int valley, int ledger, int n, int day, int one, int two, int what) {
        int most = gainOfDay(valley, ledger, n, day);
        if (most == NONE || one == two || !plan.valley.hasHouse(one) || !plan.valley.hasHouse(two)) {
            return NONE;
        }
        trade.findDeal(plan, most, one, two);
        if (trade.growth == 0) {
            return NONE;
        }
        return what == 0 ? trade.from : what == 1 ? trade.to : what == 2 ? trade.growth : NONE;
    }

    public int halved(int valley, int ledger, int n, int day, int what) {
        if (what < 0 || what > 1 || gainOfDay(valley, ledger, n, day) == NONE) {
            return NONE;
        }
        plan.dropMusts();
        int whole = plan.solve(NONE);
        plan.keepGainOfEyes();
        int halves = 2 * plan.solve(NONE);
        return what == 0 ? halves : halves > whole ? 1 : 0;
    }

    public int needs(int valley, int ledger, int n, int day, int seed, int k, int what) {
        if (k < 1 || k > 9 || what < 0 || what > 2) {
            return NO_SUCH;
        }
        int most = gainOfDay(valley, ledger, n, day);
        if (most == NONE) {
            return NO_SUCH;
        }
        plan.reachAll();
        int x = seed;
        int all = 0;
        int failed = 0;
        int greatest = 0;
        for (int i = 0; i < k; i++) {
            x = nextOf(x);
            int house = drawnBelow(x, plan.valley.houses.count);
            x = nextOf(x);
            int f = drawnBelow(x, plan.valley.slots);
            x = nextOf(x);
            int t = Math.min(f + drawnBelow(x, 3) + 1, plan.valley.slots);
            int harm = plan.harmOf(most, house, f, t);
            if (harm == NONE) {
                failed++;
            } else {
                all += harm;
                greatest = Math.max(greatest, harm);
            }
        }
        return what == 0 ? all : what == 1 ? failed : greatest;
    }

    public int day(int valley, int ledger, int n, int day, int what) {
        int most = gainOfDay(valley, ledger, n, day);
        if (most == NONE) {
            return NO_SUCH;
        }
        trip.follow(plan);
        switch (what) {
            case 0: return most + plan.touchRows(0);
            case 1: return trip.spoiled(plan);
            case 2: return trip.idle(plan.slots);
            case 3: return trip.slotsAt(NONE, plan.slots);
            case 4: return trip.longest(plan.slots);
            case 5: return dearest(most);
            case 6: return lesson(most);
            case 7: return enough();
            default: break;
        }
        int house = what < 10 ? NONE : what - 10;
        return plan.valley.hasHouse(house) ? trip.slotsAt(house, plan.slots) : NO_SUCH;
    }

    public int home(int valley, int ledger, int n, int day, int what) {
        if (what < 0 || what > 1 || gainOfDay(valley, ledger, n, day) == NONE) {
            return NO_SUCH;
        }
        if (what == 0) {
            return plan.solve(plan.valley.start);
        }
        trip.follow(plan);
        return trip.last;
    }

    public long ways(int valley, int ledger, int n, int day) {
        return gainOfDay(valley, ledger, n, day) == NONE ? NO_SUCH : trip.countWays(plan);
    }

    public int buys(int valley, int ledger, int n, int day, int house, int k) {
        int most = gainOfDay(valley, ledger, n, day);
        if (most == NONE || !plan.valley.hasHouse(house)) {
            return NO_SUCH;
        }
        trade.buyAll(plan, most, house);
        if (k == NONE) {
            return trade.bought;
        }
        if (k == -2) {
            return most + trade.growth;
        }
        return k < 0 || k >= trade.bought ? NO_SUCH : trade.slots[k];
    }

    public int both(int valley, int ledger, int n, int day, boolean second) {
        int most = gainOfDay(valley, ledger, n, day);
        if (most == NONE) {
            return NO_SUCH;
        }
        int greatest = most + plan.touchRows(0);
        int found = NONE;
        int houses = plan.valley.houses.count;
        for (int a = 0; a < houses; a++) {
            for (int b = a + 1; b < houses; b++) {
                int made = plan.yieldWith(1 << a | 1 << b);
                if (made > greatest) {
                    greatest = made;
                    found = second ? b : a;
                }
            }
        }
        return found;
    }

    public int ease(int valley, int ledger, int n, int day, int house, int m, boolean harm) {
        int most = gainOfDay(valley, ledger, n, day);
        if (most == NONE || !plan.valley.hasHouse(house) || m < 1 || m > plan.valley.slots) {
            return NO_SUCH;
        }
        plan.reachAll();
        int least = NONE;
        int found = NONE;
        for (int f = 0; f <= plan.valley.slots - m; f++) {
            int now = plan.harmOf(most, house, f, f + m);
            if (now != NONE && (least == NONE || now < least)) {
                least = now;
                found = f;
            }
        }
        return harm ? least : found;
    }

    // ---- errors

    public int blame(int valley, int round, int list, int what) {
        Sheet errors = told.sheetAt(LISTS, list);
        if (errors == null || !isWalked(valley, round)) {
            return NO_SUCH;
        }
        switch (what) {
            case 0: return walk.explained(errors, false);
            case 1: return walk.allWrong() - walk.explained(errors, true);
            case 2: return walk.culprit(errors);
            default: break;
        }
        int k = what < 10 ? NONE : what - 10;
        if (k < 0 || k >= errors.count) {
            return NO_SUCH;
        }
        return walk.slotOfRow(errors.cell(k, 0), errors.cell(k, 1));
    }

    public int likely(int valley, int list) {
        Sheet errors = told.sheetAt(LISTS, list);
        int found = NONE;
        int most = NONE;
        int fewest = NONE;
        for (int round = 0; errors != null && round < told.counts[ROUNDS]; round++) {
            if (!isWalked(valley, round)) {
                return NONE;
            }
            int explained = walk.explained(errors, false);
            int untold = walk.allWrong() - walk.explained(errors, true);
            if (explained > most || (explained == most && untold < fewest)) {
                found = round;
                most = explained;
                fewest = untold;
            }
        }
        return found;
    }

    // ---- helpers of the calls

    private static int cellOrCount(Sheet sheet, int k, int what) {
        if (sheet == null) {
            return NO_SUCH;
        }
        if (k == NONE && what == 0) {
            return sheet.count;
        }
        return sheet.isCell(k, what) ? sheet.cell(k, what) : NO_SUCH;
    }

    private static boolean isDay(int day) {
        return day >= 0 && day < WEEK_DAYS;
    }

    private static int nextOf(int x) {
        return x * 1103515245 + 12345;
    }

    private static int drawnBelow(int x, int n) {
        return n < 1 ? 0 : (x >>> 16) % n;
    }

    /** Walks a ROUND on a VALLEY; false if there is none such. */
    private boolean isWalked(int valley, int round) {
        Valley v = told.valleyAt(valley);
        Sheet legs = told.sheetAt(ROUNDS, round);
        if (v == null || legs == null) {
            return false;
        }
        walk.follow(v, legs);
        return true;
    }

    /** Brings the claims to a STATE; false if there is none such. */
    private boolean isState(int ledger, int n) {
        if (ledger == NONE) {
            claims.clear();
            return n == 0;
        }
        Sheet deeds = told.sheetAt(LEDGERS, ledger);
        return deeds != null && n >= 0 && claims.replay(deeds, n) == n;
    }

    private boolean mayWorkLeg(Sheet legs, int k, int day) {
        int t = Math.min(legs.cell(k, 2), SLOTS);
        for (int slot = Math.max(legs.cell(k, 1), 0); slot < t; slot++) {
            if (!claims.mayWork(day, slot, legs.cell(k, 0))) {
                return false;
            }
        }
        return true;
    }

    /** Lays the plan out as it is told; false if there is no such VALLEY, STATE, day, number of days. */
    private boolean isLaidOut(int valley, int ledger, int n, int day, int days) {
        Valley v = told.valleyAt(valley);
        if (v == null || !isDay(day) || days < 1 || days > WEEK_DAYS || !isState(ledger, n)) {
            return false;
        }
        plan.open(v, claims, day, days);
        plan.fill(false, 0);
        return true;
    }

    /** BEST's GAIN of one day, with the plan solved; NONE if there is no BEST or nothing to plan. */
    private int gainOfDay(int valley, int ledger, int n, int day) {
        return isLaidOut(valley, ledger, n, day, 1) ? plan.solve(NONE) : NONE;
    }

    private int dearest(int most) {
        int greatest = 0;
        int found = NONE;
        for (int slot = 0; slot < plan.slots; slot++) {
            // where this BEST gains nothing it goes as well without the slot
            if (trip.gained[slot] == 0) {
                continue;
            }
            int loss = plan.lossOf(most, NONE, slot, slot + 1);
            if (loss > greatest) {
                greatest = loss;
                found = slot;
            }
        }
        return found;
    }

    private int lesson(int most) {
        int greatest = most + plan.touchRows(0);
        int found = NONE;
        for (int h = 0; h < plan.valley.houses.count; h++) {
            int made = plan.yieldWith(1 << h);
            if (made > greatest) {
                greatest = made;
                found = h;
            }
        }
        return found;
    }

    /** By halves, for a greater PACE never makes less: the time saved can be waited. */
    private int enough() {
        int most = plan.gainByPace(MOST_PACE);
        int low = 1;
        int high = MOST_PACE;
        for (int turn = 0; turn < MOST_PACE && low < high; turn++) {
            int middle = (low + high) / 2;
            if (plan.gainByPace(middle) == most) {
                high = middle;
            } else {
                low = middle + 1;
            }
        }
        return high;
    }

    /** Rows of numbers, one behind the other, at most so many. */
    private static final class Sheet {
        final int most;
        final int width;
        final int[] cells;
        int count = 0;

        Sheet(int most, int width) {
            this.most = Math.max(0, most);
            this.width = Math.max(0, width);
            this.cells = new int[this.most * this.width];
        }

        boolean isFull() {
            return count >= most;
        }

        boolean isCell(int k, int i) {
            return k >= 0 && k < count && i >= 0 && i < width;
        }

        int cell(int k, int i) {
            return k >= 0 && k < count && i >= 0 && i < width ? cells[k * width + i] : NONE;
        }

        /** Adds a row of NONE, if there is room. */
        void addRow() {
            if (isFull()) {
                return;
            }
            for (int i = 0; i < width; i++) {
                cells[count * width + i] = NONE;
            }
            count++;
        }

        /** Writes a cell of the latest row. */
        void write(int i, int value) {
            if (isCell(count - 1, i)) {
                cells[(count - 1) * width + i] = value;
            }
        }

        void copyFrom(Sheet other) {
            count = Math.min(other.count, most);
            System.arraycopy(other.cells, 0, cells, 0, Math.min(cells.length, other.cells.length));
        }
    }

    /** A VALLEY as it is told. */
    private static final class Valley {
        int slots = 24;
        int pace = 9;
        int lightFrom = 0;
        int lightTo = SLOTS;
        int start = 0;
        final Sheet houses = new Sheet(HOUSES, 4);
        final Sheet musts = new Sheet(MUSTS, 3);

        Valley() {
        }

        void clear() {
            slots = 24;
            pace = 9;
            lightFrom = 0;
            lightTo = SLOTS;
            start = 0;
            houses.count = 0;
            musts.count = 0;
        }

        void copyFrom(Valley other) {
            slots = other.slots;
            pace = other.pace;
            lightFrom = other.lightFrom;
            lightTo = other.lightTo;
            start = other.start;
            houses.copyFrom(other.houses);
            musts.copyFrom(other.musts);
        }

        boolean hasHouse(int h) {
            return h >= 0 && h < houses.count;
        }

        boolean hasSlots(int f, int t) {
            return f >= 0 && f < t && t <= slots;
        }

        /** Whether START and all MUSTS are of HOUSES and slots that are there. */
        boolean stands() {
            for (int k = 0; k < musts.count; k++) {
                if (!hasHouse(musts.cell(k, 0)) || musts.cell(k, 2) > slots) {
                    return false;
                }
            }
            return hasHouse(start);
        }

        int stepsBetween(int a, int b) {
            return Math.abs(houses.cell(a, HEIGHT) - houses.cell(b, HEIGHT));
        }

        int slotsBetween(int a, int b, int byPace) {
            if (a == b || byPace < 1) {
                return 0;
            }
            int steps = Math.abs(houses.cell(a, HEIGHT) - houses.cell(b, HEIGHT));
            return Math.max(1, (steps + byPace - 1) / byPace);
        }

        boolean isTouch(int h) {
            return houses.cell(h, KIND) == TOUCH;
        }

        /** Whether a HOUSE of a KIND SEES in a slot, if the pair is there. */
        boolean seesBy(int kind, int slot) {
            return kind != COLOUR || (slot >= lightFrom && slot < lightTo);
        }

        int rateOf(int h, boolean cracked) {
            int rate = houses.cell(h, RATE);
            return cracked && houses.cell(h, KIND) > EYE ? rate / 2 : rate;
        }
    }

    /** All that is told: what an image keeps. */
    private static final class Told {
        final byte[] tape = new byte[TAPE];
        int length = 0;
        int fault = 0;
        int place = NONE;
        final int[] counts = new int[SORTS];
        final Valley[] valleys = new Valley[2];
        final Sheet[] rounds = new Sheet[3];
        final Sheet[] ledgers = new Sheet[2];
        final Sheet[] lists = new Sheet[2];

        Told() {
            for (int i = 0; i < 2; i++) {
                valleys[i] = new Valley();
                ledgers[i] = new Sheet(DEEDS, 6);
                lists[i] = new Sheet(ERRORS, 2);
            }
            for (int i = 0; i < 3; i++) {
                rounds[i] = new Sheet(LEGS, 3);
            }
        }

        void copyFrom(Told other) {
            System.arraycopy(other.tape, 0, tape, 0, TAPE);
            length = other.length;
            fault = other.fault;
            place = other.place;
            System.arraycopy(other.counts, 0, counts, 0, SORTS);
            for (int i = 0; i < 2; i++) {
                valleys[i].copyFrom(other.valleys[i]);
                ledgers[i].copyFrom(other.ledgers[i]);
                lists[i].copyFrom(other.lists[i]);
            }
            for (int i = 0; i < 3; i++) {
                rounds[i].copyFrom(other.rounds[i]);
            }
        }

        void append(int number) {
            for (int shift = 24; shift >= 0; shift -= 8) {
                if (length < TAPE) {
                    tape[length] = (byte) (number >>> shift);
                    length++;
                }
            }
        }

        void takeTape(int newFault, int newPlace) {
            length = 0;
            fault = newFault;
            place = newPlace;
        }

        private boolean isThere(int sort, int i) {
            return i >= 0 && i < counts[sort];
        }

        private Sheet[] sheetsOf(int sort) {
            return sort == ROUNDS ? rounds : sort == LEDGERS ? ledgers : lists;
        }

        /** Which number a text of a sort gets at a place, NO_SUCH if it can have none. */
        int numberFor(int sort, int at) {
            if (sort < 0 || sort >= SORTS) {
                return NO_SUCH;
            }
            if (at != NONE) {
                return isThere(sort, at) ? at : NO_SUCH;
            }
            int most = sort == VALLEYS ? valleys.length : sheetsOf(sort).length;
            return counts[sort] < most ? counts[sort] : NO_SUCH;
        }

        /** Keeps what the reader has read under a number that numberFor gave. */
        void keep(int sort, int number, Reader reader) {
            if (sort == VALLEYS) {
                if (number >= 0 && number < valleys.length) {
                    valleys[number].copyFrom(reader.valley);
                }
            } else {
                Sheet[] sheets = sheetsOf(sort);
                if (number >= 0 && number < sheets.length) {
                    sheets[number].copyFrom(reader.sheetFor(sort));
                }
            }
            counts[sort] = Math.max(counts[sort], number + 1);
        }

        /** null: there is none such. */
        Valley valleyAt(int i) {
            return isThere(VALLEYS, i) ? valleys[i] : null;
        }

        /** null: there is none such. */
        Sheet sheetAt(int sort, int i) {
            return isThere(sort, i) ? sheetsOf(sort)[i] : null;
        }
    }

    /** Reads a tape as a text of a sort, into a VALLEY or a sheet of its own. */
    private static final class Reader {
        private static final int FINISH = 0;
        private static final int WORD = 1;
        private static final int NUMBER = 2;
        private static final int SEMICOLON = 3;
        private static final int STRANGE = 4;

        private static final int LINE_TOUCH = 4;
        private static final int LINE_COLOUR = 7;
        private static final int LINE_MUST = 8;
        private static final int LINE_AT = 9;
        private static final int LINE_OWN = 10;
        private static final int LINE_DIES = 15;
        private static final int LINE_ERROR = 16;
        private static final int LINES = 17;

        private byte[] tape = null;
        private int length = 0;
        private int token = FINISH;
        private int at = 0;
        private int next = 0;
        private int value = 0;
        private final int[] numbers = new int[5];
        int fault = 0;
        int place = NONE;
        final Valley valley = new Valley();
        private final Sheet round = new Sheet(LEGS, 3);
        private final Sheet ledger = new Sheet(DEEDS, 6);
        private final Sheet list = new Sheet(ERRORS, 2);

        Reader() {
        }

        Sheet sheetFor(int sort) {
            return sort == ROUNDS ? round : sort == LEDGERS ? ledger : list;
        }

        void read(int sort, byte[] bytes, int many) {
            tape = bytes;
            length = bytes == null ? 0 : Math.min(many, bytes.length);
            next = 0;
            fault = 0;
            place = NONE;
            valley.clear();
            sheetFor(sort).count = 0;
            takeToken();
            for (int turn = 0; turn <= TAPE && token != FINISH && fault != 1; turn++) {
                readLine(sort);
            }
            if (sort == VALLEYS && !valley.stands()) {
                note(4);
            }
        }

        private void readLine(int sort) {
            int line = lineAtHand(sort);
            if (line == NONE) {
                refuse();
                return;
            }
            Sheet sheet = sheetOf(line);
            if (sheet != null && sheet.isFull()) {
                note(3);
            }
            takeToken();
            String ranges = rangesOf(line);
            int many = Math.min(ranges.length(), numbers.length);
            for (int i = 0; i < many; i++) {
                if (token != NUMBER) {
                    refuse();
                    return;
                }
                numbers[i] = value;
                if (!canBe(ranges.charAt(i), value, i == 0 ? NONE : numbers[i - 1])) {
                    note(2);
                }
                takeToken();
            }
            if (token != SEMICOLON) {
                refuse();
                return;
            }
            takeToken();
            // behind a FAULT nothing is kept, so only the places still matter
            if (fault == 0) {
                keepLine(line, sheet, many);
            }
        }

        private void note(int newFault) {
            if (fault == 0) {
                fault = newFault;
                place = at;
            }
        }

        /** FAULT 1 goes ahead of all others. */
        private void refuse() {
            fault = 1;
            place = at;
        }

        private void takeToken() {
            int i = next;
            while (i < length && isBlank(tape[i])) {
                i++;
            }
            at = i;
            if (i >= length) {
                token = FINISH;
            } else if (isLetter(tape[i])) {
                while (i < length && isLetter(tape[i])) {
                    i++;
                }
                token = WORD;
            } else if (isDigit(tape[i])) {
                value = 0;
                while (i < length && isDigit(tape[i])) {
                    value = value * 10 + tape[i] - '0';
                    i++;
                }
                token = i - at > 2 ? STRANGE : NUMBER;
            } else {
                token = tape[i] == ';' ? SEMICOLON : STRANGE;
                i++;
            }
            next = i;
        }

        private static boolean isBlank(int sign) {
            return sign == 10 || sign == 32;
        }

        private static boolean isLetter(int sign) {
            return sign >= 'a' && sign <= 'z';
        }

        private static boolean isDigit(int sign) {
            return sign >= '0' && sign <= '9';
        }

        private boolean isAtHand(String word) {
            if (token != WORD || word.length() != next - at) {
                return false;
            }
            for (int i = 0; i < word.length(); i++) {
                if (tape[at + i] != word.charAt(i)) {
                    return false;
                }
            }
            return true;
        }

        private int lineAtHand(int sort) {
            for (int line = 0; line < LINES; line++) {
                if (sortOf(line) == sort && isAtHand(wordOf(line))) {
                    return line;
                }
            }
            return NONE;
        }

        private static int sortOf(int line) {
            if (line < LINE_AT) {
                return VALLEYS;
            }
            return line == LINE_AT ? ROUNDS : line < LINE_ERROR ? LEDGERS : LISTS;
        }

        private static String wordOf(int line) {
            switch (line) {
                case 0: return "slots";
                case 1: return "pace";
                case 2: return "light";
                case 3: return "start";
                case 4: return "touch";
                case 5: return "eye";
                case 6: return "two";
                case 7: return "colour";
                case 8: return "must";
                case 9: return "at";
                case 10: return "own";
                case 11: return "sell";
                case 12: return "pawn";
                case 13: return "back";
                case 14: return "will";
                case 15: return "dies";
                default: return "error";
            }
        }

        /** A letter a NUMBER: which ones it can be is told by canBe. */
        private static String rangesOf(int line) {
            switch (line) {
                case 0: return "s";
                case 1: return "p";
                case 2: return "ft";
                case 3: return "h";
                case 4:
                case 5:
                case 6:
                case 7: return "arr";
                case 8:
                case 9: return "hft";
                case 10: return "hdft";
                case 11:
                case 12: return "hodft";
                case 13: return "k";
                case 14: return "ho";
                case 15: return "h";
                default: return "ha";
            }
        }

        private static boolean canBe(char range, int number, int ahead) {
            switch (range) {
                case 's': return number >= 1 && number <= SLOTS;
                case 'p': return number >= 1 && number <= MOST_PACE;
                case 'f': return number < SLOTS;
                case 't': return number <= SLOTS && number > ahead && number >= 1;
                case 'h': return number < HOUSES;
                case 'o': return number < HOUSES && number != ahead;
                case 'r': return number <= 9;
                case 'd': return number < WEEK_DAYS;
                case 'k': return number < DEEDS;
                default: return true;
            }
        }

        /** The sheet to which a line adds a row; null: a line that strikes earlier ones. */
        private Sheet sheetOf(int line) {
            if (line < LINE_TOUCH) {
                return null;
            }
            return line <= LINE_COLOUR ? valley.houses : line == LINE_MUST ? valley.musts : sheetFor(sortOf(line));
        }

        private void keepLine(int line, Sheet sheet, int many) {
            switch (line) {
                case 0: valley.slots = numbers[0]; return;
                case 1: valley.pace = numbers[0]; return;
                case 2: valley.lightFrom = numbers[0]; valley.lightTo = numbers[1]; return;
                case 3: valley.start = numbers[0]; return;
                default: break;
            }
            if (sheet == null) {
                return;
            }
            sheet.addRow();
            if (line <= LINE_COLOUR) {
                sheet.write(HEIGHT, numbers[0]);
                sheet.write(KIND, line - LINE_TOUCH);
                sheet.write(RATE, numbers[1]);
                sheet.write(BLIND, numbers[2]);
                return;
            }
            boolean isDeed = line >= LINE_OWN && line <= LINE_DIES;
            if (isDeed) {
                sheet.write(0, line - LINE_OWN);
            }
            for (int i = 0; i < many; i++) {
                sheet.write(isDeed ? i + 1 : i, numbers[i]);
            }
        }
    }

    /** Who owns and holds the slots of the week, behind some DEEDS of a LEDGER. */
    private static final class Claims {
        final int[] owner = new int[WEEK_DAYS * SLOTS];
        final int[] holder = new int[WEEK_DAYS * SLOTS];
        final int[] heir = new int[HOUSES];
        final boolean[] dead = new boolean[HOUSES];
        private final boolean[] given = new boolean[DEEDS];
        /** Slots of the week that the DEED at hand is of: from begin on, below close. */
        private int begin = 0;
        private int close = 0;

        Claims() {
        }

        void clear() {
            for (int i = 0; i < WEEK_DAYS * SLOTS; i++) {
                owner[i] = NONE;
                holder[i] = NONE;
            }
            for (int h = 0; h < HOUSES; h++) {
                heir[h] = NONE;
                dead[h] = false;
            }
            for (int k = 0; k < DEEDS; k++) {
                given[k] = false;
            }
        }

        /** Does the first n DEEDS from the beginning: how many of them can be. */
        int replay(Sheet deeds, int n) {
            clear();
            for (int k = 0; k < n && k < deeds.count; k++) {
                findSlots(deeds, deeds.cell(k, 0) == BACK ? deeds.cell(k, 1) : k);
                if (!canBe(deeds, k)) {
                    return k;
                }
                carryOut(deeds, k);
            }
            return Math.min(n, deeds.count);
        }

        boolean mayWork(int day, int slot, int house) {
            int now = holder[day * SLOTS + slot];
            return now == NONE || now == house;
        }

        int slotsOf(int[] claim, int house) {
            int many = 0;
            for (int i = 0; i < claim.length; i++) {
                many += claim[i] == house ? 1 : 0;
            }
            return many;
        }

        int slotsHeldUnlike(Claims other) {
            int many = 0;
            for (int i = 0; i < WEEK_DAYS * SLOTS; i++) {
                many += holder[i] == other.holder[i] ? 0 : 1;
            }
            return many;
        }

        private boolean lives(int house) {
            return house >= 0 && house < HOUSES && !dead[house];
        }

        private boolean canBe(Sheet deeds, int k) {
            int one = deeds.cell(k, 1);
            int two = deeds.cell(k, 2);
            switch (deeds.cell(k, 0)) {
                case OWN: return lives(one) && isAllOf(NONE);
                case SELL:
                case PAWN: return lives(one) && lives(two) && isAllOf(one);
                case BACK: return one >= 0 && one < k && one < DEEDS && deeds.cell(one, 0) == PAWN && !given[one];
                case WILL: return lives(one) && lives(two);
                case DIES: return lives(one);
                default: return false;
            }
        }

        /** Finds which slots of the week an own, sell or pawn is of (begin, close). */
        private void findSlots(Sheet deeds, int k) {
            int i = deeds.cell(k, 0) == OWN ? 2 : 3;
            int first = deeds.cell(k, i) * SLOTS;
            begin = Math.max(0, first + deeds.cell(k, i + 1));
            close = Math.min(WEEK_DAYS * SLOTS, first + deeds.cell(k, i + 2));
        }

        /** Whether all slots found are OWNED and HELD by one (NONE: OWNED by nobody). */
        private boolean isAllOf(int one) {
            for (int i = begin; i < close; i++) {
                if (owner[i] != one || (one != NONE && holder[i] != one)) {
                    return false;
                }
            }
            return true;
        }

        private void carryOut(Sheet deeds, int k) {
            int one = deeds.cell(k, 1);
            int two = deeds.cell(k, 2);
            switch (deeds.cell(k, 0)) {
                case OWN: handOver(one, true); break;
                case SELL: handOver(two, true); break;
                case PAWN: handOver(two, false); break;
                case BACK: giveBack(one); break;
                case WILL: bequeath(one, two); break;
                case DIES: bury(one); break;
                default: break;
            }
        }

        private void handOver(int house, boolean owns) {
            for (int i = begin; i < close; i++) {
                holder[i] = house;
                if (owns) {
                    owner[i] = house;
                }
            }
        }

        private void giveBack(int pawn) {
            if (pawn < 0 || pawn >= DEEDS) {
                return;
            }
            given[pawn] = true;
            for (int i = begin; i < close; i++) {
                holder[i] = owner[i];
            }
        }

        private void bequeath(int house, int to) {
            if (lives(house)) {
                heir[house] = to;
            }
        }

        private void bury(int house) {
            if (!lives(house)) {
                return;
            }
            dead[house] = true;
            int next = livingHeir(house);
            for (int i = 0; i < WEEK_DAYS * SLOTS; i++) {
                if (owner[i] == house) {
                    owner[i] = next;
                }
                if (holder[i] == house) {
                    holder[i] = next == NONE ? owner[i] : next;
                }
                if (owner[i] == NONE) {
                    holder[i] = NONE;
                }
            }
        }

        /** HEIRS may name one another in a ring, all dead: then there is none. */
        private int livingHeir(int house) {
            int next = house;
            for (int turn = 0; turn < HOUSES && next >= 0 && next < HOUSES; turn++) {
                next = heir[next];
                if (next >= 0 && next < HOUSES && !dead[next]) {
                    return next;
                }
            }
            return NONE;
        }
    }

    /** A ROUND gone on a VALLEY, and the rows that are made by it. */
    private static final class Walk {
        Valley valley = null;
        int legs = 0;
        int climb = 0;
        final int[] spot = new int[SLOTS];
        private final int[] tally = new int[HOUSES];

        Walk() {
        }

        void follow(Valley on, Sheet round) {
            valley = on;
            legs = 0;
            climb = 0;
            int at = on.start;
            int filled = 0;
            int behind = 0;
            for (int k = 0; k < round.count; k++) {
                int house = round.cell(k, 0);
                int from = round.cell(k, 1);
                int leave = from - on.slotsBetween(at, house, on.pace);
                if (!on.hasHouse(house) || round.cell(k, 2) > on.slots || leave < behind) {
                    break;
                }
                mark(filled, leave, at);
                mark(leave, from, NONE);
                climb += on.stepsBetween(at, house);
                at = house;
                filled = from;
                behind = round.cell(k, 2);
                legs++;
            }
            mark(filled, on.slots, at);
        }

        private void mark(int from, int to, int house) {
            for (int slot = Math.max(0, from); slot < to && slot < SLOTS; slot++) {
                spot[slot] = house;
            }
        }

        boolean isRight(int house, int slot) {
            int kind = valley.houses.cell(house, KIND);
            if (kind == TOUCH) {
                return true;
            }
            return slot >= 0 && slot < SLOTS && spot[slot] == house && valley.seesBy(kind, slot);
        }

        private int rowsIn(int house, int slot) {
            return valley.houses.cell(house, isRight(house, slot) ? RATE : BLIND);
        }

        int allRight(boolean cracked) {
            int many = 0;
            for (int house = 0; house < valley.houses.count; house++) {
                for (int slot = 0; slot < valley.slots; slot++) {
                    many += isRight(house, slot) ? valley.rateOf(house, cracked) : 0;
                }
            }
            return many;
        }

        int allWrong() {
            int many = 0;
            for (int house = 0; house < valley.houses.count; house++) {
                many += wrongRows(house);
            }
            return many;
        }

        int wrongRows(int house) {
            int many = 0;
            for (int slot = 0; slot < valley.slots; slot++) {
                many += isRight(house, slot) ? 0 : rowsIn(house, slot);
            }
            return many;
        }

        private boolean isSpoiled(int house, int slot) {
            return !isRight(house, slot) && rowsIn(house, slot) > 0;
        }

        int wrongSlots(int house) {
            int many = 0;
            for (int slot = 0; slot < valley.slots; slot++) {
                many += isSpoiled(house, slot) ? 1 : 0;
            }
            return many;
        }

        int rowsBefore(int house, int end) {
            int many = 0;
            for (int slot = 0; slot < end; slot++) {
                many += rowsIn(house, slot);
            }
            return many;
        }

        int firstWrong(int house) {
            for (int slot = 0; slot < valley.slots; slot++) {
                if (isSpoiled(house, slot)) {
                    return rowsBefore(house, slot);
                }
            }
            return NONE;
        }

        /** NONE: there is no such HOUSE or ROW. */
        int slotOfRow(int house, int n) {
            if (!valley.hasHouse(house) || n < 0) {
                return NONE;
            }
            int many = 0;
            for (int slot = 0; slot < valley.slots; slot++) {
                many += rowsIn(house, slot);
                if (n < many) {
                    return slot;
                }
            }
            return NONE;
        }

        private boolean isExplained(Sheet errors, int k) {
            int slot = slotOfRow(errors.cell(k, 0), errors.cell(k, 1));
            return slot != NONE && !isRight(errors.cell(k, 0), slot);
        }

        /** How many ERRORS are of ROWS that are wrong; (once) or how many such ROWS they tell. */
        int explained(Sheet errors, boolean once) {
            int many = 0;
            for (int k = 0; k < errors.count; k++) {
                if (isExplained(errors, k) && !(once && isToldAhead(errors, k))) {
                    many++;
                }
            }
            return many;
        }

        private static boolean isToldAhead(Sheet errors, int k) {
            for (int i = 0; i < k; i++) {
                if (errors.cell(i, 0) == errors.cell(k, 0) && errors.cell(i, 1) == errors.cell(k, 1)) {
                    return true;
                }
            }
            return false;
        }

        int culprit(Sheet errors) {
            for (int house = 0; house < HOUSES; house++) {
                tally[house] = 0;
            }
            for (int k = 0; k < errors.count; k++) {
                int slot = slotOfRow(errors.cell(k, 0), errors.cell(k, 1));
                int at = slot >= 0 && slot < SLOTS ? spot[slot] : NONE;
                if (at >= 0 && at < HOUSES && isExplained(errors, k)) {
                    tally[at]++;
                }
            }
            int found = NONE;
            int most = 0;
            for (int house = 0; house < HOUSES; house++) {
                if (tally[house] > most) {
                    most = tally[house];
                    found = house;
                }
            }
            return found;
        }
    }

    /**
     * The best way of the pair through some days, from each slot and HOUSE on to the end. A score is
     * GAIN * UNIT less CLIMB, so that the greatest score is the most GAIN with the least CLIMB of it.
     */
    private static final class Plan {
        private static final int UNIT = 65536;
        private static final int BAD = -1000000000;
        private static final int ANY = -1;
        private static final int NOBODY = -2;

        Valley valley = null;
        private Claims claims = null;
        private int first = 0;
        private int days = 0;
        int slots = 0;
        private final int[] rates = new int[HOUSES];
        private final int[] gain = new int[WEEK_DAYS * SLOTS * HOUSES];
        private final int[] must = new int[WEEK_DAYS * SLOTS];
        private final int[] free = new int[WEEK_DAYS * SLOTS + 1];
        private final int[] steps = new int[HOUSES * HOUSES];
        private final int[] time = new int[HOUSES * HOUSES];
        private final int[] score = new int[(WEEK_DAYS * SLOTS + 1) * HOUSES];
        /** Of one day alone, as all is that is told by it. */
        private final int[] reach = new int[(SLOTS + 1) * HOUSES];

        Plan() {
        }

        void open(Valley in, Claims by, int day, int many) {
            valley = in;
            claims = by;
            first = day;
            days = many;
            slots = in.slots * many;
        }

        /** Lays out WAYS, MUSTS and GAINS as told; HOUSES of the mask touch are taken as TOUCH. */
        void fill(boolean cracked, int touch) {
            setPace(valley.pace);
            dropMusts();
            for (int h = 0; h < valley.houses.count; h++) {
                boolean isTouch = valley.isTouch(h) || (touch >> h & 1) == 1;
                rates[h] = isTouch ? 0 : valley.rateOf(h, cracked);
            }
            for (int i = 0; i < days; i++) {
                for (int k = 0; k < valley.musts.count; k++) {
                    int begin = i * valley.slots;
                    require(valley.musts.cell(k, 0), begin + valley.musts.cell(k, 1), begin + valley.musts.cell(k, 2));
                }
                for (int slot = 0; slot < valley.slots; slot++) {
                    fillSlot(i, slot);
                }
            }
        }

        private void fillSlot(int i, int slot) {
            int day = (first + i) % WEEK_DAYS;
            int begin = (i * valley.slots + slot) * HOUSES;
            for (int h = 0; h < valley.houses.count; h++) {
                gain[begin + h] = claims.mayWork(day, slot, h) ? gainIfHeld(slot, h) : 0;
            }
        }

        void setPace(int pace) {
            for (int a = 0; a < valley.houses.count; a++) {
                for (int b = 0; b < valley.houses.count; b++) {
                    steps[a * HOUSES + b] = valley.stepsBetween(a, b);
                    time[a * HOUSES + b] = valley.slotsBetween(a, b, pace);
                }
            }
        }

        void dropMusts() {
            for (int s = 0; s < slots; s++) {
                must[s] = ANY;
            }
        }

        /** A further MUST; slots of two HOUSES are of no one. */
        void require(int house, int from, int to) {
            for (int s = Math.max(0, from); s < to && s < slots; s++) {
                must[s] = must[s] == ANY || must[s] == house ? house : NOBODY;
            }
        }

        /** Takes the GAIN of slots from a HOUSE (NONE: from all). */
        void bar(int house, int from, int to) {
            for (int s = Math.max(0, from); s < to && s < slots; s++) {
                for (int h = 0; h < valley.houses.count; h++) {
                    if (house == NONE || house == h) {
                        gain[s * HOUSES + h] = 0;
                    }
                }
            }
        }

        void keepGainOfEyes() {
            for (int h = 0; h < valley.houses.count; h++) {
                if (valley.houses.cell(h, KIND) != EYE) {
                    bar(h, 0, slots);
                }
            }
        }

        /** The most GAIN, ending at a HOUSE (NONE: at any); NONE if there is no such way. */
        int solve(int goal) {
            countFree();
            int houses = valley.houses.count;
            for (int h = 0; h < houses; h++) {
                score[slots * HOUSES + h] = goal == NONE || goal == h ? 0 : BAD;
            }
            for (int s = slots - 1; s >= 0; s--) {
                for (int h = 0; h < houses; h++) {
                    score[s * HOUSES + h] = bestFrom(s, h, houses);
                }
            }
            return gainOf(score[valley.start]);
        }

        private void countFree() {
            free[slots] = 0;
            for (int s = slots - 1; s >= 0; s--) {
                free[s] = must[s] == ANY ? free[s + 1] + 1 : 0;
            }
        }

        /** The best of staying and all of going, in one loop: most of the time of a plan is spent here. */
        private int bestFrom(int s, int h, int houses) {
            int most = staying(s, h);
            int limit = s + free[s];
            for (int b = 0; b < houses; b++) {
                int end = s + time[h * HOUSES + b];
                if (b != h && end <= limit) {
                    int now = score[end * HOUSES + b] - steps[h * HOUSES + b];
                    most = now > most ? now : most;
                }
            }
            return most;
        }

        private boolean canStay(int s, int h) {
            return must[s] == ANY || must[s] == h;
        }

        /** The score from a slot on, if the pair stays in it; s is below slots. */
        int staying(int s, int h) {
            int rest = score[(s + 1) * HOUSES + h];
            return rest == BAD || !canStay(s, h) ? BAD : rest + gain[s * HOUSES + h] * UNIT;
        }

        /** The score from a slot on, if the pair begins a WAY in it; s is below slots. */
        int going(int s, int h, int b) {
            int end = s + time[h * HOUSES + b];
            if (end > s + free[s]) {
                return BAD;
            }
            int rest = score[end * HOUSES + b];
            return rest == BAD ? BAD : rest - steps[h * HOUSES + b];
        }

        int scoreAt(int s, int h) {
            return score[s * HOUSES + h];
        }

        int gainIn(int s, int h) {
            return gain[s * HOUSES + h];
        }

        int timeOf(int a, int b) {
            return time[a * HOUSES + b];
        }

        static boolean isWay(int score) {
            return score != BAD;
        }

        /** The GAIN of a score: CLIMB is below UNIT, so that it rounds up. */
        static int gainOf(int score) {
            return score == BAD ? NONE : (score + UNIT - 1) / UNIT;
        }

        /** CLIMB of what was solved; NONE if there is no way. */
        int climb() {
            int all = score[valley.start];
            return all == BAD ? NONE : gainOf(all) * UNIT - all;
        }

        /** By what is reached up to the slots and what comes behind them; NONE if none can be there in all. */
        int harmOf(int most, int house, int from, int to) {
            int ahead = reach[from * HOUSES + house];
            int rest = score[to * HOUSES + house];
            if (ahead == BAD || rest == BAD) {
                return NONE;
            }
            int all = ahead + rest;
            for (int s = from; s < to; s++) {
                if (!canStay(s, house)) {
                    return NONE;
                }
                all += gain[s * HOUSES + house] * UNIT;
            }
            return most - gainOf(all);
        }

        int lossOf(int most, int house, int from, int to) {
            fill(false, 0);
            bar(house, from, to);
            return most - solve(NONE);
        }

        int gainByPace(int pace) {
            fill(false, 0);
            setPace(pace);
            return solve(NONE);
        }

        int yieldWith(int touch) {
            fill(false, touch);
            return solve(NONE) + touchRows(touch);
        }

        /** What TOUCH makes in a day, HOUSES of the mask too. */
        int touchRows(int touch) {
            int many = 0;
            for (int h = 0; h < valley.houses.count; h++) {
                if (valley.isTouch(h) || (touch >> h & 1) == 1) {
                    many += valley.rateOf(h, false) * valley.slots;
                }
            }
            return many;
        }

        int holderOf(int slot) {
            return claims.holder[first * SLOTS + slot];
        }

        void setHolder(int slot, int house) {
            claims.holder[first * SLOTS + slot] = house;
        }

        /** Scores from START to each slot and HOUSE, by the plan that was solved. */
        void reachAll() {
            for (int h = 0; h < valley.houses.count; h++) {
                reach[h] = h == valley.start ? 0 : BAD;
            }
            for (int s = 1; s <= slots; s++) {
                reachSlot(s, NONE);
            }
        }

        /** Scores up to the begin of a slot, 1 at least; (holder) as if one HELD the slot ahead of it. */
        void reachSlot(int s, int holder) {
            for (int h = 0; h < valley.houses.count; h++) {
                int most = BAD;
                int ahead = reach[(s - 1) * HOUSES + h];
                if (ahead != BAD && canStay(s - 1, h)) {
                    int more = holder == NONE ? gain[(s - 1) * HOUSES + h] : holder == h ? gainIfHeld(s - 1, h) : 0;
                    most = ahead + more * UNIT;
                }
                for (int a = 0; a < valley.houses.count; a++) {
                    if (a != h) {
                        most = Math.max(most, arriving(s, a, h));
                    }
                }
                reach[s * HOUSES + h] = most;
            }
        }

        /** What the pair gains at a HOUSE in a slot of the day, if it HELD it. */
        private int gainIfHeld(int slot, int h) {
            return valley.seesBy(valley.houses.cell(h, KIND), slot) ? rates[h] : 0;
        }

        private int arriving(int s, int a, int b) {
            int leave = s - time[a * HOUSES + b];
            if (leave < 0 || leave + free[leave] < s || reach[leave * HOUSES + a] == BAD) {
                return BAD;
            }
            return reach[leave * HOUSES + a] - steps[a * HOUSES + b];
        }

        /** The most GAIN of ways that are at some HOUSE at the begin of a slot. */
        int gainThrough(int s) {
            int most = NONE;
            for (int h = 0; h < valley.houses.count; h++) {
                int i = s * HOUSES + h;
                if (reach[i] != BAD && score[i] != BAD) {
                    most = Math.max(most, gainOf(reach[i] + score[i]));
                }
            }
            return most;
        }

        /** The most GAIN of ways that are at a HOUSE in a slot, if it HELD the slot. */
        int gainStaying(int s, int h) {
            int ahead = reach[s * HOUSES + h];
            int rest = score[(s + 1) * HOUSES + h];
            if (ahead == BAD || rest == BAD || !canStay(s, h)) {
                return NONE;
            }
            return gainOf(ahead + rest + gainIfHeld(s, h) * UNIT);
        }
    }

    /** SPOTS of a plan that was solved, and what they tell. */
    private static final class Trip {
        private static final long MOST_WAYS = 1000000000000L;

        final int[] spot = new int[WEEK_DAYS * SLOTS];
        final int[] gained = new int[WEEK_DAYS * SLOTS];
        /** In which slot the pair is free to go on, and from which HOUSE. */
        final int[] free = new int[WEEK_DAYS * SLOTS];
        final int[] goal = new int[WEEK_DAYS * SLOTS];
        int last = NONE;
        private final long[] many = new long[(SLOTS + 1) * HOUSES];

        Trip() {
        }

        /** Follows the best way of a plan by which there is one. */
        void follow(Plan plan) {
            int h = plan.valley.start;
            int s = 0;
            for (int turn = 0; turn < plan.slots && s < plan.slots; turn++) {
                int b = nextFrom(plan, s, h);
                int end = b == h ? s + 1 : s + Math.max(1, plan.timeOf(h, b));
                int ready = b == h ? s : end;
                for (int i = s; i < end && i < plan.slots; i++) {
                    spot[i] = b == h ? h : NONE;
                    gained[i] = b == h ? plan.gainIn(i, h) : 0;
                    free[i] = ready;
                    goal[i] = b;
                }
                s = end;
                h = b;
            }
            last = h;
        }

        private static int nextFrom(Plan plan, int s, int h) {
            int want = plan.scoreAt(s, h);
            if (plan.staying(s, h) == want) {
                return h;
            }
            for (int b = 0; b < plan.valley.houses.count; b++) {
                if (b != h && plan.going(s, h, b) == want) {
                    return b;
                }
            }
            return h;
        }

        int slotsAt(int house, int slots) {
            int sum = 0;
            for (int s = 0; s < slots; s++) {
                sum += spot[s] == house ? 1 : 0;
            }
            return sum;
        }

        int idle(int slots) {
            int sum = 0;
            for (int s = 0; s < slots; s++) {
                sum += spot[s] != NONE && gained[s] == 0 ? 1 : 0;
            }
            return sum;
        }

        int longest(int slots) {
            int most = 0;
            int now = 0;
            for (int s = 0; s < slots; s++) {
                boolean goesOn = s > 0 && spot[s] == spot[s - 1];
                now = spot[s] == NONE ? 0 : goesOn ? now + 1 : 1;
                most = Math.max(most, now);
            }
            return most;
        }

        /** Rows that are wrong in the plan's one day. */
        int spoiled(Plan plan) {
            int sum = 0;
            for (int h = 0; h < plan.valley.houses.count; h++) {
                for (int s = 0; s < plan.slots; s++) {
                    if (!plan.valley.isTouch(h) && !works(plan, h, s)) {
                        sum += plan.valley.houses.cell(h, BLIND);
                    }
                }
            }
            return sum;
        }

        private boolean works(Plan plan, int h, int s) {
            int holder = plan.holderOf(s);
            boolean sees = plan.valley.seesBy(plan.valley.houses.cell(h, KIND), s);
            return spot[s] == h && sees && (holder == NONE || holder == h);
        }

        /** In how many unlike ways the plan's one day can be best. */
        long countWays(Plan plan) {
            for (int h = 0; h < plan.valley.houses.count; h++) {
                many[plan.slots * HOUSES + h] = 1;
            }
            for (int s = plan.slots - 1; s >= 0; s--) {
                for (int h = 0; h < plan.valley.houses.count; h++) {
                    many[s * HOUSES + h] = Math.min(waysFrom(plan, s, h), MOST_WAYS);
                }
            }
            return many[plan.valley.start];
        }

        private long waysFrom(Plan plan, int s, int h) {
            int want = plan.scoreAt(s, h);
            if (!Plan.isWay(want)) {
                return 0;
            }
            long sum = plan.staying(s, h) == want ? many[(s + 1) * HOUSES + h] : 0;
            for (int b = 0; b < plan.valley.houses.count; b++) {
                if (b != h && plan.going(s, h, b) == want) {
                    sum += many[(s + plan.timeOf(h, b)) * HOUSES + b];
                }
            }
            return sum;
        }
    }

    /** What would be bought, of the slots of a plan's one day that was solved. */
    private static final class Trade {
        int from = NONE;
        int to = NONE;
        int growth = 0;
        int bought = 0;
        final int[] slots = new int[SLOTS];

        Trade() {
        }

        /**
         * A way that crosses the last bought slot's end makes no more than with fewer slots bought, so
         * that ways which are at a HOUSE there are enough. From the last f on, for what is reached up to
         * f must be as it was.
         */
        void findDeal(Plan plan, int most, int one, int two) {
            from = NONE;
            to = NONE;
            growth = 0;
            plan.reachAll();
            for (int f = plan.slots - 1; f >= 0; f--) {
                int best = 0;
                int end = NONE;
                for (int t = f + 1; t <= plan.slots && plan.holderOf(t - 1) == one; t++) {
                    plan.reachSlot(t, two);
                    int more = plan.gainThrough(t) - most;
                    if (more > best) {
                        best = more;
                        end = t;
                    }
                }
                if (best > 0 && best >= growth) {
                    growth = best;
                    from = f;
                    to = end;
                }
            }
        }

        /** Buys for a HOUSE slot by slot; the plan's claims are changed by it. */
        void buyAll(Plan plan, int most, int house) {
            growth = 0;
            bought = 0;
            for (int turn = 0; turn < SLOTS; turn++) {
                plan.reachAll();
                int slot = slotToBuy(plan, most + growth, house);
                if (slot == NONE) {
                    return;
                }
                slots[bought] = slot;
                bought++;
                plan.setHolder(slot, house);
                plan.fill(false, 0);
                growth = plan.solve(NONE) - most;
            }
        }

        /** A slot makes more only by a way that is at the HOUSE in it. */
        private static int slotToBuy(Plan plan, int most, int house) {
            int greatest = most;
            int found = NONE;
            for (int slot = 0; slot < plan.slots; slot++) {
                int holder = plan.holderOf(slot);
                int now = holder == NONE || holder == house ? NONE : plan.gainStaying(slot, house);
                if (now > greatest) {
                    greatest = now;
                    found = slot;
                }
            }
            return found;
        }
    }
}
