/**
 * Cloisters that are closed. What each call does stands in the document (DOC.md); words in capitals
 * in the comments are the document's own.
 */
public final class FallenHouses {
    public static final int BAD = -1, FULL = -2, NONE = -3, STATE = -4;

    private static final int NO_ROW = -9, NOTHING_THERE = -11, PLACE_OUTSIDE = -12, OTHER_SORT = -13,
        SIZE_BELOW_ZERO = -14, PARTED_BY_ZERO = -15;

    private static final int LAST_DAY = 3599, QUARTER_DAYS = 90, QUARTERS = 40, PLACES = 10, ORDERS = 4;
    private static final int MOST_PERSONS = 16, MOST_HOUSES = 8, MOST_THINGS = 24, MOST_RIGHTS = 24;
    private static final int MOST_STAYS = 24, MOST_LOTS = 7, MOST_BUYERS = 3, MOST_DEEDS = 24;
    private static final int MOST_COIN = 9999, MOST_WORTH = 99, MOST_AMOUNT = 999, MOST_WITNESSES = 3;
    private static final int ACTS = 4, MOST_VERSIONS = 12, MOST_RULES = 10, TAPE_BYTES = 300, NO_RANK = 9;
    private static final int SEALS = 4, FIELDS = 6, DOUBT_DAYS = 180, RIDE_HOUSES = 7;
    private static final int SHEETS = 4, SHEET_ITEMS = 40, SHELVES = 4, TRACE_BODIES = 30;
    // Each sign of a COND takes three bytes of the tape or more: names of two letters need a blank or a
    // bracket beside them.
    private static final int MOST_SIGNS = TAPE_BYTES / 3;

    private static final int BELL = 0, PLATE = 1, BOOK = 2, LEAD = 3;
    private static final int THERE = 0, HIDDEN = 1, PAWNED = 2, MELTED = 3, SOLD = 4, ROTTED = 5;
    private static final int RENT = 1, LEASE = 2, PENSION = 4, DEBT = 5, PLEDGE = 6, CLAIM = 7, KINDS = 8;
    /** Of each KIND, as bits: itself and those that it is under. */
    private static final int[] ITSELF_AND_ABOVE = {1, 3, 7, 9, 17, 33, 97, 129};

    // The columns of the tables. Those that an ...Of() call tells by a number stand at that number.
    private static final int PERSON_BORN = 0, PERSON_DIED = 1, PERSON_COLUMNS = 2;
    private static final int HOUSE_PLACE = 0, HOUSE_ORDER = 1, HOUSE_COIN = 2, HOUSE_FEAR = 3,
        HOUSE_FELL = 4, HOUSE_STRIPPED = 5, HOUSE_DUE = 6, HOUSE_HAD = 7, HOUSE_ROLL = 8,
        HOUSE_ROLL_DAY = 9, HOUSE_COLUMNS = 10;
    private static final int THING_HOUSE = 0, THING_KIND = 1, THING_WORTH = 2, THING_IS = 3,
        THING_SHOWED = 4, THING_COLUMNS = 5;
    private static final int RIGHT_KIND = 0, RIGHT_HOUSE = 1, RIGHT_PERSON = 2, RIGHT_AMOUNT = 3,
        RIGHT_FROM = 4, RIGHT_TO = 5, RIGHT_LEANS = 6, RIGHT_OF = 7, RIGHT_GONE = 8, RIGHT_PROVED = 9,
        RIGHT_SEAL = 10, RIGHT_TOLD = 11, RIGHT_WITNESSES = 12, RIGHT_WITNESS = 13,
        RIGHT_COLUMNS = RIGHT_WITNESS + MOST_WITNESSES;
    private static final int VERSION_ACT = 0, VERSION_RULES = 1, VERSION_FROM = 2, VERSION_TO = 3,
        VERSION_FIRST_RULE = 4, VERSION_COLUMNS = 5;
    private static final int RULE_SORT = 0, RULE_KINDS = 1, RULE_N = 2, RULE_SIGNS_FROM = 3,
        RULE_SIGNS_TO = 4, RULE_COLUMNS = 5;
    private static final int RULE_STANDS = 0, RULE_RANKS = 2;
    private static final int SIGN_WORD = 0, SIGN_N = 1, SIGN_COLUMNS = 2;
    private static final int STAY_PERSON = 0, STAY_PLACE = 1, STAY_DAY = 2, STAY_COLUMNS = 3;
    private static final int DEED_FIELD = 0, DEED_FROM = 1, DEED_TO = 2, DEED_DAY = 3, DEED_AMOUNT = 4,
        DEED_KNOWN = 5, DEED_COLUMNS = 6;
    private static final int ROW_HOUSE = 0, ROW_DAY = 1, ROW_COLUMNS = 2;

    private final Land now = new Land();
    private final Law law = new Law(now);
    private final Debts debts = new Debts(now, law);
    private final Text text = new Text();
    private final Ride rides = new Ride(now);
    private final Sale sales = new Sale(now);
    private final Deeds deeds = new Deeds(now);
    private final Order orders = new Order(now);
    private final Host host = new Host(now);
    /** What keep() kept; null: nothing is kept. */
    private Land kept;

    public FallenHouses() {
    }

    private static boolean isWithin(int number, int least, int most) {
        return number >= least && number <= most;
    }

    private static boolean isDay(int day) {
        return isWithin(day, 0, LAST_DAY);
    }

    private static boolean isPlace(int place) {
        return isWithin(place, 0, PLACES - 1);
    }

    // ---- the land

    public int days(int n) {
        if (!isWithin(n, 1, 400)) return BAD;
        if (now.today + n > LAST_DAY) return STATE;
        for (int i = 0; i < n; i++) now.goOn();
        return now.today;
    }

    public int road(int a, int b, int n) {
        if (!isPlace(a) || !isPlace(b) || a == b || !isWithin(n, 1, 20)) return BAD;
        int was = now.roads.get(a, b);
        now.roads.set(a, b, n);
        now.roads.set(b, a, n);
        return was;
    }

    public int person(int born) {
        if (!isDay(born)) return BAD;
        if (now.persons.isFull()) return FULL;
        int person = now.persons.add();
        now.persons.set(person, PERSON_BORN, born);
        now.persons.set(person, PERSON_DIED, NONE);
        return person;
    }

    public int die(int person, int day) {
        if (!now.persons.has(person) || !isDay(day) || day < now.persons.get(person, PERSON_BORN)) return BAD;
        if (now.persons.get(person, PERSON_DIED) != NONE) return STATE;
        now.persons.set(person, PERSON_DIED, day);
        return 1;
    }

    public int house(int place, int order, int coin, int fear) {
        if (!isPlace(place) || !isWithin(order, 0, ORDERS - 1)) return BAD;
        if (!isWithin(coin, 0, MOST_COIN) || !isWithin(fear, 1, 9)) return BAD;
        if (now.houses.isFull()) return FULL;
        int house = now.houses.add();
        now.houses.set(house, HOUSE_PLACE, place);
        now.houses.set(house, HOUSE_ORDER, order);
        now.houses.set(house, HOUSE_COIN, coin);
        now.houses.set(house, HOUSE_FEAR, fear);
        now.houses.set(house, HOUSE_FELL, NONE);
        now.houses.set(house, HOUSE_STRIPPED, NONE);
        now.houses.set(house, HOUSE_DUE, LAST_DAY);
        now.houses.set(house, HOUSE_HAD, NONE);
        now.houses.set(house, HOUSE_ROLL_DAY, NONE);
        return house;
    }

    public int fall(int house) {
        if (!now.houses.has(house)) return BAD;
        if (now.hasFallen(house)) return STATE;
        int had = now.houses.get(house, HOUSE_COIN) + now.worth(house, THERE) + now.worth(house, PAWNED);
        now.houses.set(house, HOUSE_FELL, now.today);
        now.houses.set(house, HOUSE_HAD, had);
        return had;
    }

    public int houseOf(int house, int what) {
        if (!now.houses.has(house)) return BAD;
        if (what == 7) return now.heard(house);
        if (isWithin(what, HOUSE_PLACE, HOUSE_ROLL_DAY)) return now.houses.get(house, what);
        if (isWithin(what, 10 + THERE, 10 + ROTTED)) return now.manyThings(house, what - 10);
        return what == 20 ? now.houses.get(house, HOUSE_HAD) : BAD;
    }

    // ---- things

    public int thing(int house, int kind, int worth) {
        if (!now.houses.has(house) || !isWithin(kind, BELL, LEAD) || !isWithin(worth, 1, MOST_WORTH)) return BAD;
        if (now.hasFallen(house)) return STATE;
        if (now.things.isFull()) return FULL;
        int thing = now.things.add();
        now.things.set(thing, THING_HOUSE, house);
        now.things.set(thing, THING_KIND, kind);
        now.things.set(thing, THING_WORTH, worth);
        now.things.set(thing, THING_IS, THERE);
        return thing;
    }

    public int thingOf(int thing, int what) {
        if (!now.things.has(thing) || !isWithin(what, THING_HOUSE, THING_SHOWED)) return BAD;
        return now.things.get(thing, what);
    }

    public int sell(int thing) {
        if (!now.things.has(thing)) return BAD;
        if (now.things.get(thing, THING_IS) != THERE) return STATE;
        int house = now.things.get(thing, THING_HOUSE);
        int coin = Math.min(MOST_COIN, now.houses.get(house, HOUSE_COIN) + now.things.get(thing, THING_WORTH));
        now.things.set(thing, THING_IS, SOLD);
        now.houses.set(house, HOUSE_COIN, coin);
        return coin;
    }

    public int show(int thing, int person) {
        if (!now.things.has(thing) || !now.persons.has(person)) return BAD;
        if (now.things.get(thing, THING_IS) != HIDDEN || !now.isAlive(person, now.today)) return STATE;
        law.reckonGone();
        if (!law.hasLease(person, now.things.get(thing, THING_HOUSE))) return STATE;
        now.things.set(thing, THING_SHOWED, 1);
        return 1;
    }

    public int strip(int house) {
        if (!now.houses.has(house)) return BAD;
        if (now.houses.get(house, HOUSE_STRIPPED) != NONE) return STATE;
        now.houses.set(house, HOUSE_STRIPPED, now.today);
        return now.meltLead(house);
    }

    // ---- rights

    public int right(int kind, int house, int person, int amount, int from, int to, int of, int leans) {
        if (!isWithin(kind, 0, KINDS - 1) || !now.houses.has(house) || !now.persons.has(person)) return BAD;
        if (!isWithin(amount, 1, MOST_AMOUNT) || !isDay(from) || !isDay(to) || to < from) return BAD;
        if (leans != -1 && !now.rights.has(leans)) return BAD;
        if (!isOfAsTold(kind, house, of)) return BAD;
        if (now.hasFallen(house)) return STATE;
        if (kind == PLEDGE && now.things.get(of, THING_IS) != THERE) return STATE;
        if (now.rights.isFull()) return FULL;
        int right = now.rights.add();
        now.rights.set(right, RIGHT_KIND, kind);
        now.rights.set(right, RIGHT_HOUSE, house);
        now.rights.set(right, RIGHT_PERSON, person);
        now.rights.set(right, RIGHT_AMOUNT, amount);
        now.rights.set(right, RIGHT_FROM, from);
        now.rights.set(right, RIGHT_TO, to);
        now.rights.set(right, RIGHT_OF, of);
        now.rights.set(right, RIGHT_LEANS, leans == -1 ? NONE : leans);
        now.rights.set(right, RIGHT_PROVED, NONE);
        now.rights.set(right, RIGHT_SEAL, NONE);
        now.rights.set(right, RIGHT_TOLD, NONE);
        if (kind == PLEDGE) now.things.set(of, THING_IS, PAWNED);
        return right;
    }

    private boolean isOfAsTold(int kind, int house, int of) {
        switch (kind) {
            case LEASE: return isDay(of);
            case PLEDGE: return now.things.has(of) && now.things.get(of, THING_HOUSE) == house;
            case CLAIM: return now.rights.has(of);
            default: return of == 0;
        }
    }

    public int rightOf(int right, int what) {
        if (!now.rights.has(right)) return BAD;
        if (isWithin(what, RIGHT_KIND, RIGHT_OF)) return now.rights.get(right, what);
        switch (what) {
            case 8:
                law.reckonGone();
                return now.rights.get(right, RIGHT_GONE);
            case 9: return Integer.bitCount(law.hanging(right));
            case 10: return now.rights.get(right, RIGHT_PROVED);
            default: return BAD;
        }
    }

    public int hangs(int right) {
        return now.rights.has(right) ? law.hanging(right) : BAD;
    }

    public int prove(int right) {
        if (!now.rights.has(right)) return BAD;
        if (now.rights.get(right, RIGHT_KIND) != CLAIM) return STATE;
        if (now.rights.get(right, RIGHT_PROVED) != NONE) return STATE;
        int before = law.reckonGone();
        if (now.rights.get(right, RIGHT_GONE) != NONE) return STATE;
        now.rights.set(right, RIGHT_PROVED, now.today);
        return law.reckonGone() - before;
    }

    // ---- the acts

    public int feed(long eight, int n) {
        if (!isWithin(n, 1, 8)) return BAD;
        return text.take(eight, n) ? text.length : FULL;
    }

    public int read(int act) {
        int fault = text.parse();
        text.length = 0;
        if (!isWithin(act, 0, ACTS - 1)) return BAD;
        if (fault != NONE) return -100 - fault;
        if (now.versions.isFull()) return FULL;
        law.end(act);
        int version = now.versions.add();
        now.versions.set(version, VERSION_ACT, act);
        now.versions.set(version, VERSION_RULES, text.rules.count);
        now.versions.set(version, VERSION_FROM, now.today);
        now.versions.set(version, VERSION_TO, NONE);
        now.versions.set(version, VERSION_FIRST_RULE, now.rules.count);
        now.append(text);
        return version;
    }

    public int strike(int act) {
        if (!isWithin(act, 0, ACTS - 1)) return BAD;
        return law.end(act);
    }

    public int version(int v, int what) {
        if (!now.versions.has(v)) return BAD;
        if (isWithin(what, VERSION_ACT, VERSION_TO)) return now.versions.get(v, what);
        int rules = now.versions.get(v, VERSION_RULES);
        int first = now.versions.get(v, VERSION_FIRST_RULE);
        if (isWithin(what, 10, 9 + rules)) {
            int rule = first + what - 10;
            return 1000 * now.rules.get(rule, RULE_SORT) + now.rules.get(rule, RULE_KINDS);
        }
        if (isWithin(what, 30, 29 + rules)) return now.rules.get(first + what - 30, RULE_N);
        return BAD;
    }

    public int stands(int right) {
        int refusal = refusalAheadOfFall(right);
        if (refusal != 0) return refusal;
        return law.isStanding(right) ? 1 : 0;
    }

    public int why(int right) {
        int refusal = refusalAheadOfFall(right);
        return refusal != 0 ? refusal : law.tells(right, false);
    }

    public int rank(int right) {
        int refusal = refusalAheadOfFall(right);
        return refusal != 0 ? refusal : law.rankOf(right);
    }

    public int gets(int right) {
        int refusal = refusalAheadOfFall(right);
        if (refusal != 0) return refusal;
        if (!law.isDebt(right) || !law.isStanding(right)) return STATE;
        return debts.gotBy(right);
    }

    /** Why nothing can be told yet of a RIGHT by the ACTS; 0: it can be. */
    private int refusalAheadOfFall(int right) {
        if (!now.rights.has(right)) return BAD;
        return now.hasFallen(now.rights.get(right, RIGHT_HOUSE)) ? 0 : STATE;
    }

    public int pension(int person, int quarter) {
        if (!now.persons.has(person) || !isWithin(quarter, 0, QUARTERS - 1)) return BAD;
        int day = quarter * QUARTER_DAYS + QUARTER_DAYS - 1;
        if (!now.isAlive(person, day)) return 0;
        law.reckonGone();
        return law.pensions(person, day);
    }

    // ---- leases

    public int witness(int right, int person) {
        if (!now.rights.has(right) || !now.persons.has(person)) return BAD;
        if (!now.isLease(right)) return STATE;
        int many = now.rights.get(right, RIGHT_WITNESSES);
        if (many >= MOST_WITNESSES) return FULL;
        now.rights.set(right, RIGHT_WITNESS + many, person);
        now.rights.set(right, RIGHT_WITNESSES, many + 1);
        return many + 1;
    }

    public int sealOf(int right, int seal) {
        if (!now.rights.has(right) || !isWithin(seal, -1, SEALS - 1)) return BAD;
        if (!now.isLease(right)) return STATE;
        int was = now.rights.get(right, RIGHT_SEAL);
        now.rights.set(right, RIGHT_SEAL, seal == -1 ? NONE : seal);
        return was;
    }

    public int seal(int seal, int day) {
        if (!isWithin(seal, 0, SEALS - 1) || !isDay(day)) return BAD;
        int was = now.seals.get(seal, 0);
        now.seals.set(seal, 0, day);
        return was;
    }

    public int told(int right, int day) {
        if (!now.rights.has(right) || !isDay(day)) return BAD;
        if (!now.isLease(right)) return STATE;
        int was = now.rights.get(right, RIGHT_TOLD);
        int least = was == NONE ? day : Math.min(was, day);
        now.rights.set(right, RIGHT_TOLD, least);
        return least;
    }

    public int stay(int person, int place, int day) {
        if (!now.persons.has(person) || !isPlace(place) || !isDay(day)) return BAD;
        if (now.stays.isFull()) return FULL;
        int stay = now.stays.add();
        now.stays.set(stay, STAY_PERSON, person);
        now.stays.set(stay, STAY_PLACE, place);
        now.stays.set(stay, STAY_DAY, day);
        return now.stays.count;
    }

    public int shown(int right) {
        if (!now.rights.has(right)) return BAD;
        return now.isLease(right) ? Leases.shownOf(now, right) : STATE;
    }

    // ---- commissioners

    public int value(int house, int hours) {
        if (!now.houses.has(house) || !isWithin(hours, 0, 40)) return BAD;
        if (now.hasFallen(house)) return STATE;
        int roll = now.putDown(house, hours);
        now.houses.set(house, HOUSE_ROLL, roll);
        now.houses.set(house, HOUSE_ROLL_DAY, now.today);
        return roll;
    }

    public int due(int house, int day) {
        if (!now.houses.has(house) || !isDay(day)) return BAD;
        int was = now.houses.get(house, HOUSE_DUE);
        now.houses.set(house, HOUSE_DUE, day);
        return was;
    }

    public int ride(int place, int set, int what) {
        if (!isPlace(place) || !isWithin(what, 0, 2)) return BAD;
        if (set < 0 || set >= 1 << now.houses.count || Integer.bitCount(set) > RIDE_HOUSES) return BAD;
        if (set == 0) return NONE;
        rides.reckon(place, set);
        switch (what) {
            case 0: return rides.bestTimely;
            case 1: return rides.bestEnd - now.today;
            default: return rides.digits();
        }
    }

    public int row(int i, int what) {
        if (!rides.rows.has(i) || !isWithin(what, ROW_HOUSE, ROW_DAY)) return NO_ROW;
        return rides.rows.get(i, what);
    }

    public int alterRow(int i, int what, int v) {
        if (!rides.rows.has(i) || !isWithin(what, ROW_HOUSE, ROW_DAY)) return NO_ROW;
        int was = rides.rows.get(i, what);
        rides.rows.set(i, what, v);
        return was;
    }

    public int dropRow() {
        if (rides.rows.count == 0) return NONE;
        rides.rows.cut(rides.rows.count - 1);
        return rides.rows.count;
    }

    public int judge() {
        return rides.told.count == 0 ? NONE : rides.firstWrong() + 1;
    }

    // ---- sales, deeds, the order

    public int lot(int price) {
        if (!isWithin(price, 1, 99)) return BAD;
        if (now.lots.isFull()) return FULL;
        now.lots.set(now.lots.add(), 0, price);
        return now.lots.count;
    }

    public int buyer(int coin) {
        if (!isWithin(coin, 0, 300)) return BAD;
        if (now.buyers.isFull()) return FULL;
        now.buyers.set(now.buyers.add(), 0, coin);
        return now.buyers.count;
    }

    public int clear() {
        int many = now.lots.count + now.buyers.count;
        now.lots.cut(0);
        now.buyers.cut(0);
        return many;
    }

    public int sale(int goal, int what) {
        boolean isLot = isWithin(what, 10, 9 + now.lots.count);
        if (!isWithin(goal, 0, 900) || !isWithin(what, 0, 1) && !isLot) return BAD;
        if (!sales.reckon(goal)) return NONE;
        if (isLot) return sales.buyerOf(what - 10);
        return what == 0 ? sales.bestFalls : sales.bestComes;
    }

    public int deed(int field, int from, int to, int day, int amount) {
        if (!isWithin(field, 0, FIELDS - 1) || !now.persons.has(from) || !now.persons.has(to)) return BAD;
        if (from == to || !isDay(day) || !isWithin(amount, 0, MOST_AMOUNT)) return BAD;
        if (now.deeds.isFull()) return FULL;
        int deed = now.deeds.add();
        now.deeds.set(deed, DEED_FIELD, field);
        now.deeds.set(deed, DEED_FROM, from);
        now.deeds.set(deed, DEED_TO, to);
        now.deeds.set(deed, DEED_DAY, day);
        now.deeds.set(deed, DEED_AMOUNT, amount);
        now.deeds.set(deed, DEED_KNOWN, now.today);
        return deed;
    }

    public int title(int field, int day, int k) {
        if (!isWithin(field, 0, FIELDS - 1) || !isDay(day) || !isWithin(k, 0, now.today)) return BAD;
        deeds.follow(field, day, k, NONE);
        return deeds.holder;
    }

    public int quarrels(int field, int k) {
        if (!isWithin(field, 0, FIELDS - 1) || !isWithin(k, 0, now.today)) return BAD;
        deeds.follow(field, LAST_DAY, k, NONE);
        return deeds.manyQuarrels;
    }

    public int owed(int person, int field, int day, int k) {
        if (!now.persons.has(person) || !isWithin(field, 0, FIELDS - 1)) return BAD;
        if (!isDay(day) || !isWithin(k, 0, now.today)) return BAD;
        deeds.follow(field, day, k, person);
        return deeds.sumOwed;
    }

    public int order(int what) {
        if (!isWithin(what, 0, now.manyUnfallen())) return BAD;
        law.reckonGone();
        int brought = orders.reckon();
        return what == 0 ? brought : orders.houseAt(what - 1);
    }

    // ---- the host

    public int sheet(int sheet, int sort, int n) {
        if (!host.sheets.has(sheet) || !isWithin(sort, -1, Host.BOOLEANS)) return BAD;
        if (sort != -1 && n > SHEET_ITEMS) return BAD;
        if (sort != -1 && n < 0) return SIZE_BELOW_ZERO;
        host.make(sheet, sort, sort == -1 ? 0 : n);
        return 1;
    }

    public int put(int sheet, int i, int v) {
        if (!host.sheets.has(sheet)) return BAD;
        if (host.isMissing(sheet)) return NOTHING_THERE;
        if (!host.hasItem(sheet, i)) return PLACE_OUTSIDE;
        host.items.set(sheet, i, host.narrow(sheet, v));
        return 1;
    }

    public int item(int sheet, int sort, int i) {
        if (!host.sheets.has(sheet) || !isWithin(sort, Host.BYTES, Host.BOOLEANS)) return BAD;
        int refusal = host.refusalOf(sheet, sort);
        if (refusal != 0) return refusal;
        return host.hasItem(sheet, i) ? host.items.get(sheet, i) : PLACE_OUTSIDE;
    }

    public int comes(int sheet, int i) {
        if (!host.sheets.has(sheet)) return BAD;
        int refusal = host.refusalOf(sheet, Host.SHORTS);
        if (refusal != 0) return refusal;
        if (!host.hasItem(sheet, i) || !host.hasItem(sheet, i + 2)) return PLACE_OUTSIDE;
        return thing(host.items.get(sheet, i), host.items.get(sheet, i + 1), host.items.get(sheet, i + 2));
    }

    public int shelf(int shelf, int what, int n) {
        if (!host.shelves.has(shelf)) return BAD;
        switch (what) {
            case Host.HOLDS_RIGHT:
                if (!now.rights.has(n)) return BAD;
                host.hold(shelf, Host.HOLDS_RIGHT, n, 0);
                return 1;
            case Host.HOLDS_ROW:
                if (!host.sheets.has(n)) return BAD;
                host.holdRow(shelf, n);
                return 1;
            case Host.HOLDS_NOTHING:
                host.hold(shelf, Host.HOLDS_NOTHING, 0, 0);
                return 1;
            default: return BAD;
        }
    }

    public int taken(int shelf, int as) {
        if (!host.shelves.has(shelf)) return BAD;
        if (!isWithin(as, 0, KINDS - 1) && !isWithin(as, 10, 10 + Host.BOOLEANS)) return BAD;
        return host.takenAs(shelf, as);
    }

    public int deal(int shelf, int deal, int x) {
        host.trace.cut(0);
        int right = host.rightOn(shelf);
        if (right == NONE || !isWithin(deal, Host.BEARS, Host.PARTS)) return 0;
        return host.dealWith(right, deal, x);
    }

    public int trace(int i) {
        return host.trace.has(i) ? host.trace.get(i, 0) : NONE;
    }

    public int many(int what) {
        switch (what) {
            case 0: return now.today;
            case 1: return now.persons.count;
            case 2: return now.houses.count;
            case 3: return now.things.count;
            case 4: return now.rights.count;
            case 5: return now.versions.count;
            case 6: return now.stays.count;
            case 7: return now.lots.count;
            case 8: return now.buyers.count;
            case 9: return now.deeds.count;
            case 10: return rides.rows.count;
            case 11: return text.length;
            case 12: return host.trace.count;
            case 13: return now.houses.count - now.manyUnfallen();
            case 14: return law.reckonGone();
            default: return BAD;
        }
    }

    // ---- kept

    public int keep() {
        if (kept == null) kept = new Land();
        kept.copy(now);
        return 1;
    }

    public int again() {
        if (kept == null) return NONE;
        now.copy(kept);
        return 1;
    }

    /** Rows of numbers, those from 0 up to the count being there. A cell that is not there is 0 and stays so. */
    private static final class Table {
        private final int[] cells;
        private final int width, limit;
        private int count;

        Table(int limit, int width) {
            this.limit = limit;
            this.width = width;
            this.cells = new int[limit > 0 && width > 0 ? limit * width : 0];
        }

        boolean has(int row) {
            return row >= 0 && row < count;
        }

        boolean isFull() {
            return count >= limit;
        }

        int get(int row, int column) {
            if (row < 0 || row >= count || column < 0 || column >= width) return 0;
            return cells[row * width + column];
        }

        void set(int row, int column, int value) {
            if (row < 0 || row >= count || column < 0 || column >= width) return;
            cells[row * width + column] = value;
        }

        /** A new row, all 0: its number, or FULL. */
        int add() {
            if (count >= limit) return FULL;
            for (int i = count * width; i < (count + 1) * width; i++) cells[i] = 0;
            count++;
            return count - 1;
        }

        void addAll() {
            for (int i = count; i < limit; i++) add();
        }

        /** Only so many rows stay. */
        void cut(int rows) {
            if (rows >= 0 && rows < count) count = rows;
        }

        /** It becomes as another one of the same size. */
        void copy(Table other) {
            if (other.limit != limit || other.width != width) return;
            System.arraycopy(other.cells, 0, cells, 0, other.count * width);
            count = other.count;
        }
    }

    /** All that is kept: what there is on TODAY, and how it changes as TODAY goes on. */
    private static final class Land {
        /** HOURS that a THING takes to be put down, by KINDS. */
        private static final int[] HOURS = {3, 2, 1, 4};

        private int today;
        private final Table roads = new Table(PLACES, PLACES);
        private final Table persons = new Table(MOST_PERSONS, PERSON_COLUMNS);
        private final Table houses = new Table(MOST_HOUSES, HOUSE_COLUMNS);
        private final Table things = new Table(MOST_THINGS, THING_COLUMNS);
        private final Table rights = new Table(MOST_RIGHTS, RIGHT_COLUMNS);
        private final Table versions = new Table(MOST_VERSIONS, VERSION_COLUMNS);
        private final Table rules = new Table(MOST_VERSIONS * MOST_RULES, RULE_COLUMNS);
        private final Table signs = new Table(MOST_VERSIONS * MOST_SIGNS, SIGN_COLUMNS);
        private final Table seals = new Table(SEALS, 1);
        private final Table stays = new Table(MOST_STAYS, STAY_COLUMNS);
        private final Table lots = new Table(MOST_LOTS, 1);
        private final Table buyers = new Table(MOST_BUYERS, 1);
        private final Table deeds = new Table(MOST_DEEDS, DEED_COLUMNS);

        Land() {
            seals.addAll();
            roads.addAll();
            for (int a = 0; a < PLACES; a++) {
                for (int b = 0; b < PLACES; b++) roads.set(a, b, a == b ? 0 : 5);
            }
        }

        void copy(Land other) {
            today = other.today;
            roads.copy(other.roads);
            persons.copy(other.persons);
            houses.copy(other.houses);
            things.copy(other.things);
            rights.copy(other.rights);
            versions.copy(other.versions);
            rules.copy(other.rules);
            signs.copy(other.signs);
            seals.copy(other.seals);
            stays.copy(other.stays);
            lots.copy(other.lots);
            buyers.copy(other.buyers);
            deeds.copy(other.deeds);
        }

        boolean hasFallen(int house) {
            return houses.get(house, HOUSE_FELL) != NONE;
        }

        int manyUnfallen() {
            int many = 0;
            for (int house = 0; house < houses.count; house++) {
                if (!hasFallen(house)) many++;
            }
            return many;
        }

        boolean isAlive(int person, int day) {
            int died = persons.get(person, PERSON_DIED);
            return persons.get(person, PERSON_BORN) <= day && (died == NONE || day <= died);
        }

        boolean isLease(int right) {
            return rights.get(right, RIGHT_KIND) == LEASE;
        }

        /** Whether a THING is a HOUSE's, and is so (there, HIDDEN ..). */
        boolean isSo(int thing, int house, int so) {
            return things.get(thing, THING_HOUSE) == house && things.get(thing, THING_IS) == so;
        }

        int manyThings(int house, int so) {
            int many = 0;
            for (int thing = 0; thing < things.count; thing++) {
                if (isSo(thing, house, so)) many++;
            }
            return many;
        }

        int worth(int house, int so) {
            int sum = 0;
            for (int thing = 0; thing < things.count; thing++) {
                if (isSo(thing, house, so)) sum += things.get(thing, THING_WORTH);
            }
            return sum;
        }

        /** Of how many HOUSES the ABBOT of a HOUSE has HEARD TODAY. */
        int heard(int house) {
            if (hasFallen(house)) return 0;
            int place = houses.get(house, HOUSE_PLACE);
            int many = 0;
            for (int other = 0; other < houses.count; other++) {
                if (other == house || !hasFallen(other)) continue;
                int road = roads.get(place, houses.get(other, HOUSE_PLACE));
                if (houses.get(other, HOUSE_FELL) <= today - road) many++;
            }
            return many;
        }

        /** TODAY goes on by a DAY. */
        void goOn() {
            today++;
            for (int house = 0; house < houses.count; house++) rot(house);
            for (int house = 0; house < houses.count; house++) {
                if (!hasFallen(house) && heard(house) >= houses.get(house, HOUSE_FEAR)) hide(house);
            }
        }

        private void rot(int house) {
            int stripped = houses.get(house, HOUSE_STRIPPED);
            if (stripped == NONE || today <= stripped || (today - stripped) % 10 != 0) return;
            int least = NONE;
            for (int thing = 0; thing < things.count; thing++) {
                if (things.get(thing, THING_KIND) != BOOK) continue;
                if (!isSo(thing, house, THERE) && !isSo(thing, house, HIDDEN)) continue;
                if (least == NONE || things.get(thing, THING_WORTH) < things.get(least, THING_WORTH)) least = thing;
            }
            things.set(least, THING_IS, ROTTED);
        }

        private void hide(int house) {
            int best = NONE;
            for (int thing = 0; thing < things.count; thing++) {
                int kind = things.get(thing, THING_KIND);
                if (!isSo(thing, house, THERE) || kind != PLATE && kind != BOOK) continue;
                if (best == NONE || things.get(thing, THING_WORTH) > things.get(best, THING_WORTH)) best = thing;
            }
            things.set(best, THING_IS, HIDDEN);
        }

        /** The lead of a HOUSE that is there is MELTED: what it was worth. */
        int meltLead(int house) {
            int sum = 0;
            for (int thing = 0; thing < things.count; thing++) {
                if (things.get(thing, THING_KIND) != LEAD || !isSo(thing, house, THERE)) continue;
                things.set(thing, THING_IS, MELTED);
                sum += things.get(thing, THING_WORTH);
            }
            return sum;
        }

        /** The THINGS of a HOUSE, as bits, that are put down in so many HOURS. */
        int putDown(int house, int hours) {
            int roll = 0;
            int left = hours;
            for (int thing = 0; thing < things.count; thing++) {
                boolean isShowed = isSo(thing, house, HIDDEN) && things.get(thing, THING_SHOWED) == 1;
                if (!isShowed && !isSo(thing, house, THERE)) continue;
                int kind = things.get(thing, THING_KIND);
                left -= kind >= 0 && kind < HOURS.length ? HOURS[kind] : 0;
                if (left < 0) break;
                roll |= 1 << thing;
            }
            return roll;
        }

        /** The RULES of a TEXT are put behind those that there are. */
        void append(Text text) {
            int shift = signs.count;
            for (int i = 0; i < text.signs.count; i++) {
                int sign = signs.add();
                signs.set(sign, SIGN_WORD, text.signs.get(i, SIGN_WORD));
                signs.set(sign, SIGN_N, text.signs.get(i, SIGN_N));
            }
            for (int i = 0; i < text.rules.count; i++) {
                int rule = rules.add();
                rules.set(rule, RULE_SORT, text.rules.get(i, RULE_SORT));
                rules.set(rule, RULE_KINDS, text.rules.get(i, RULE_KINDS));
                rules.set(rule, RULE_N, text.rules.get(i, RULE_N));
                rules.set(rule, RULE_SIGNS_FROM, shift + text.rules.get(i, RULE_SIGNS_FROM));
                rules.set(rule, RULE_SIGNS_TO, shift + text.rules.get(i, RULE_SIGNS_TO));
            }
        }
    }

    /** What the ACTS tell of RIGHTS, and which RIGHTS are GONE. */
    private static final class Law {
        private final Land land;

        Law(Land land) {
            this.land = land;
        }

        /** The VERSION of an ACT that is in force on a DAY, or NONE. */
        private int inForce(int act, int day) {
            for (int version = 0; version < land.versions.count; version++) {
                int to = land.versions.get(version, VERSION_TO);
                if (land.versions.get(version, VERSION_ACT) != act) continue;
                if (land.versions.get(version, VERSION_FROM) <= day && (to == NONE || day < to)) return version;
            }
            return NONE;
        }

        /** The VERSION of an ACT that is in force TODAY is no more: it, or NONE. */
        int end(int act) {
            int version = inForce(act, land.today);
            land.versions.set(version, VERSION_TO, land.today);
            return version;
        }

        /** The last RULE that tells the RANK of a RIGHT, or else whether it STANDS: as WHY tells it, or NONE. */
        int tells(int right, boolean ofRank) {
            int day = land.houses.get(land.rights.get(right, RIGHT_HOUSE), HOUSE_FELL);
            int kind = land.rights.get(right, RIGHT_KIND);
            for (int act = ACTS - 1; act >= 0; act--) {
                int version = inForce(act, day);
                int first = land.versions.get(version, VERSION_FIRST_RULE);
                for (int i = land.versions.get(version, VERSION_RULES) - 1; i >= 0; i--) {
                    boolean ranks = land.rules.get(first + i, RULE_SORT) == RULE_RANKS;
                    if (ranks != ofRank || !isOfKind(first + i, kind)) continue;
                    if (holds(first + i, right, day)) return 100 * version + i;
                }
            }
            return NONE;
        }

        private boolean isOfKind(int rule, int kind) {
            if (kind < 0 || kind >= ITSELF_AND_ABOVE.length) return false;
            return (land.rules.get(rule, RULE_KINDS) & ITSELF_AND_ABOVE[kind]) != 0;
        }

        /** Whether the COND of a RULE holds for a RIGHT whose HOUSE FELL on a DAY. */
        private boolean holds(int rule, int right, int day) {
            int from = land.rules.get(rule, RULE_SIGNS_FROM);
            int to = land.rules.get(rule, RULE_SIGNS_TO);
            int order = land.houses.get(land.rights.get(right, RIGHT_HOUSE), HOUSE_ORDER);
            boolean isLease = land.isLease(right);
            int dated = land.rights.get(right, RIGHT_OF);
            // The answers that wait to be joined, as bits, the latest lowest; without a COND one that is true.
            int waiting = 1;
            for (int i = from; i < to; i++) {
                int n = land.signs.get(i, SIGN_N);
                switch (land.signs.get(i, SIGN_WORD)) {
                    case Text.NOT: waiting ^= 1; break;
                    case Text.AND: waiting = (waiting >> 1) & (waiting | ~1); break;
                    case Text.OR: waiting = (waiting >> 1) | (waiting & 1); break;
                    case Text.ORDER: waiting = withAnswer(waiting, order == n); break;
                    case Text.AMOUNT: waiting = withAnswer(waiting, land.rights.get(right, RIGHT_AMOUNT) > n); break;
                    case Text.DATED: waiting = withAnswer(waiting, isLease && day - dated <= n); break;
                    default: waiting = withAnswer(waiting, land.isAlive(land.rights.get(right, RIGHT_PERSON), day));
                }
            }
            return (waiting & 1) == 1;
        }

        private static int withAnswer(int waiting, boolean answer) {
            return waiting << 1 | (answer ? 1 : 0);
        }

        /** Of a RULE, as WHY tells it, what stands in a column. */
        private int ruleOf(int why, int column) {
            return land.rules.get(land.versions.get(why / 100, VERSION_FIRST_RULE) + why % 100, column);
        }

        boolean isStanding(int right) {
            int why = tells(right, false);
            return why != NONE && ruleOf(why, RULE_SORT) == RULE_STANDS;
        }

        int rankOf(int right) {
            int why = tells(right, true);
            return why == NONE ? NO_RANK : ruleOf(why, RULE_N);
        }

        boolean isDebt(int right) {
            int kind = land.rights.get(right, RIGHT_KIND);
            return kind == DEBT || kind == PLEDGE;
        }

        /** From which DAY each RIGHT is GONE is put beside it: how many are GONE TODAY. */
        int reckonGone() {
            int many = 0;
            for (int right = 0; right < land.rights.count; right++) {
                int house = land.rights.get(right, RIGHT_HOUSE);
                int gone = NONE;
                if (land.hasFallen(house) && !isStanding(right)) gone = land.houses.get(house, HOUSE_FELL);
                gone = earlier(gone, disproved(right));
                int leans = land.rights.get(right, RIGHT_LEANS);
                if (leans != NONE) gone = earlier(gone, land.rights.get(leans, RIGHT_GONE));
                land.rights.set(right, RIGHT_GONE, gone);
                if (gone != NONE) many++;
            }
            return many;
        }

        /** The first DAY on which a claim against a RIGHT was PROVED, or NONE. */
        private int disproved(int right) {
            int first = NONE;
            for (int claim = right + 1; claim < land.rights.count; claim++) {
                if (land.rights.get(claim, RIGHT_KIND) != CLAIM || land.rights.get(claim, RIGHT_OF) != right) continue;
                first = earlier(first, land.rights.get(claim, RIGHT_PROVED));
            }
            return first;
        }

        private static int earlier(int a, int b) {
            if (a == NONE) return b;
            return b == NONE ? a : Math.min(a, b);
        }

        /** HANGS on a RIGHT, as bits. */
        int hanging(int right) {
            int base = 1 << right;
            for (int other = right + 1; other < land.rights.count; other++) {
                int leans = land.rights.get(other, RIGHT_LEANS);
                if (leans != NONE && (base >> leans & 1) == 1) base |= 1 << other;
            }
            return base & ~(1 << right);
        }

        /** Whether a PERSON holds a lease on a HOUSE that isn't GONE; behind reckonGone(). */
        boolean hasLease(int person, int house) {
            for (int right = 0; right < land.rights.count; right++) {
                if (!land.isLease(right) || land.rights.get(right, RIGHT_GONE) != NONE) continue;
                if (land.rights.get(right, RIGHT_PERSON) != person) continue;
                if (land.rights.get(right, RIGHT_HOUSE) == house) return true;
            }
            return false;
        }

        /** The sum of a PERSON's pensions on a DAY; behind reckonGone(). */
        int pensions(int person, int day) {
            int sum = 0;
            for (int right = 0; right < land.rights.count; right++) {
                if (land.rights.get(right, RIGHT_KIND) != PENSION) continue;
                if (land.rights.get(right, RIGHT_PERSON) != person) continue;
                int gone = land.rights.get(right, RIGHT_GONE);
                if (gone != NONE && gone <= day) continue;
                if (land.rights.get(right, RIGHT_FROM) > day || land.rights.get(right, RIGHT_TO) < day) continue;
                sum += land.rights.get(right, RIGHT_AMOUNT);
            }
            return sum;
        }
    }

    /** What goes to each of the DEBTS of a HOUSE that FELL. */
    private static final class Debts {
        private static final int SHARE_RANK = 0, SHARE_WANTS = 1, SHARE_GOT = 2, SHARE_COLUMNS = 3;
        /** Stands for a RANK with RIGHTS that are no DEBTS of the HOUSE. */
        private static final int NO_SHARE = -1;

        private final Land land;
        private final Law law;
        private final Table shares = new Table(MOST_RIGHTS, SHARE_COLUMNS);

        Debts(Land land, Law law) {
            this.land = land;
            this.law = law;
        }

        int gotBy(int right) {
            int coin = gather(land.rights.get(right, RIGHT_HOUSE));
            for (int rank = 0; rank <= NO_RANK; rank++) {
                int wanted = wanted(rank);
                if (coin >= wanted) {
                    payAll(rank);
                    coin -= wanted;
                } else {
                    payParts(rank, coin, wanted);
                    coin = 0;
                }
            }
            return shares.get(right, SHARE_GOT);
        }

        /** The DEBTS of a HOUSE are put down, the pledges take of their THINGS: what is left of HAD for all. */
        private int gather(int house) {
            int coin = land.houses.get(house, HOUSE_HAD);
            shares.cut(0);
            for (int right = 0; right < land.rights.count; right++) {
                int share = shares.add();
                shares.set(share, SHARE_RANK, NO_SHARE);
                if (land.rights.get(right, RIGHT_HOUSE) != house) continue;
                if (!law.isDebt(right) || !law.isStanding(right)) continue;
                int amount = land.rights.get(right, RIGHT_AMOUNT);
                int taken = 0;
                if (land.rights.get(right, RIGHT_KIND) == PLEDGE) {
                    taken = Math.min(amount, land.things.get(land.rights.get(right, RIGHT_OF), THING_WORTH));
                }
                coin -= taken;
                shares.set(share, SHARE_RANK, law.rankOf(right));
                shares.set(share, SHARE_WANTS, amount - taken);
                shares.set(share, SHARE_GOT, taken);
            }
            return coin;
        }

        private int wanted(int rank) {
            int sum = 0;
            for (int share = 0; share < shares.count; share++) {
                if (shares.get(share, SHARE_RANK) == rank) sum += shares.get(share, SHARE_WANTS);
            }
            return sum;
        }

        private void give(int share, int coin) {
            shares.set(share, SHARE_WANTS, shares.get(share, SHARE_WANTS) - coin);
            shares.set(share, SHARE_GOT, shares.get(share, SHARE_GOT) + coin);
        }

        private void payAll(int rank) {
            for (int share = 0; share < shares.count; share++) {
                if (shares.get(share, SHARE_RANK) == rank) give(share, shares.get(share, SHARE_WANTS));
            }
        }

        private void payParts(int rank, int coin, int wanted) {
            if (wanted <= 0) return;
            int left = coin;
            for (int share = 0; share < shares.count; share++) {
                if (shares.get(share, SHARE_RANK) != rank) continue;
                int part = coin * shares.get(share, SHARE_WANTS) / wanted;
                give(share, part);
                left -= part;
            }
            // Less is left than there are such that want, for each of them lost less than one.
            for (int share = 0; share < shares.count && left > 0; share++) {
                if (shares.get(share, SHARE_RANK) != rank || shares.get(share, SHARE_WANTS) == 0) continue;
                give(share, 1);
                left--;
            }
        }
    }

    /** What shows that a lease was not written as it is DATED. */
    private static final class Leases {
        private static final int NO_FAULT = 0, DEAD_WITNESS = 1, NEW_SEAL = 2, FAR_WITNESSES = 3, DOUBT = 4;

        static int shownOf(Land land, int right) {
            int dated = land.rights.get(right, RIGHT_OF);
            int witnesses = land.rights.get(right, RIGHT_WITNESSES);
            for (int i = 0; i < witnesses; i++) {
                if (!land.isAlive(land.rights.get(right, RIGHT_WITNESS + i), dated)) return DEAD_WITNESS;
            }
            int seal = land.rights.get(right, RIGHT_SEAL);
            if (seal != NONE && land.seals.get(seal, 0) > dated) return NEW_SEAL;
            for (int i = 0; i < witnesses; i++) {
                for (int j = i + 1; j < witnesses; j++) {
                    int one = land.rights.get(right, RIGHT_WITNESS + i);
                    int other = land.rights.get(right, RIGHT_WITNESS + j);
                    if (areApart(land, one, other, dated)) return FAR_WITNESSES;
                }
            }
            int told = land.rights.get(right, RIGHT_TOLD);
            return told != NONE && told > dated + DOUBT_DAYS ? DOUBT : NO_FAULT;
        }

        /** Whether a STAY of one and a STAY of another kept them from meeting on a DAY. */
        private static boolean areApart(Land land, int one, int other, int day) {
            for (int i = 0; i < land.stays.count; i++) {
                if (land.stays.get(i, STAY_PERSON) != one) continue;
                for (int j = 0; j < land.stays.count; j++) {
                    if (land.stays.get(j, STAY_PERSON) == other && !couldMeet(land, i, j, day)) return true;
                }
            }
            return false;
        }

        private static boolean couldMeet(Land land, int i, int j, int day) {
            int daysOfOne = Math.abs(land.stays.get(i, STAY_DAY) - day);
            int daysOfOther = Math.abs(land.stays.get(j, STAY_DAY) - day);
            for (int place = 0; place < PLACES; place++) {
                if (land.roads.get(land.stays.get(i, STAY_PLACE), place) > daysOfOne) continue;
                if (land.roads.get(land.stays.get(j, STAY_PLACE), place) <= daysOfOther) return true;
            }
            return false;
        }
    }

    /** THE TAPE and what stands on it: the RULES of a TEXT, or a FAULT. */
    private static final class Text {
        private static final String WORDS =
            "right rent lease alms pension debt pledge claim stand fall rank if and or not order amount above dated within held ";
        private static final int STAND = 8, RANK = 10, IF = 11, AND = 12, OR = 13, NOT = 14, ORDER = 15,
            AMOUNT = 16, ABOVE = 17, DATED = 18, WITHIN = 19, HELD = 20, NO_WORD = -1;
        /** Sorts of tokens; another byte's sort is the byte. */
        private static final int NAME = 256, NUMBER = 257, END = 258;
        private static final int TOKEN_SORT = 0, TOKEN_START = 1, TOKEN_VALUE = 2, TOKEN_COLUMNS = 3;
        /** Levels of a COND: what or joins, what and joins, and ONE. */
        private static final int JOINED_BY_OR = 0, ONE = 2, MOST_OPEN = 4;

        private final byte[] tape = new byte[TAPE_BYTES];
        private int length;
        private final Table tokens = new Table(TAPE_BYTES + 1, TOKEN_COLUMNS);
        /** The token that comes next. */
        private int at;
        /** The NUMBER, or the KINDS as bits, that were passed latest. */
        private int number, kinds;
        private final Table rules = new Table(MOST_RULES, RULE_COLUMNS);
        /** The CONDS: what they ask, each joint behind the two that it joins. */
        private final Table signs = new Table(MOST_SIGNS, SIGN_COLUMNS);

        boolean take(long eight, int n) {
            if (n < 0 || length + n > TAPE_BYTES) return false;
            for (int i = 0; i < n; i++) tape[length + i] = (byte) (eight >> 8 * i);
            length += n;
            return true;
        }

        /** The byte at a place of THE TAPE; 0 outside. */
        private int signAt(int place) {
            return place >= 0 && place < TAPE_BYTES ? tape[place] & 255 : 0;
        }

        /** The RULES are read from THE TAPE: the FAULT, or NONE. */
        int parse() {
            split();
            at = 0;
            rules.cut(0);
            signs.cut(0);
            boolean fits = true;
            for (int i = 0; fits && i < TAPE_BYTES && sort() != END; i++) fits = passRule();
            return fits ? NONE : tokens.get(at, TOKEN_START);
        }

        private void split() {
            tokens.cut(0);
            int place = 0;
            for (int i = 0; i < TAPE_BYTES && place < length; i++) {
                int sign = signAt(place);
                int end = endOfRow(place);
                if (isLetter(sign)) {
                    addToken(NAME, place, wordOf(place, end));
                } else if (isDigit(sign)) {
                    addToken(NUMBER, place, numberOf(place, end));
                } else if (sign != ' ') {
                    addToken(sign, place, 0);
                }
                place = end;
            }
            addToken(END, length, 0);
        }

        private static boolean isLetter(int sign) {
            return sign >= 'a' && sign <= 'z';
        }

        private static boolean isDigit(int sign) {
            return sign >= '0' && sign <= '9';
        }

        /** Behind which place a NAME, a NUMBER or another byte that begins at a place is over. */
        private int endOfRow(int start) {
            int end = start + 1;
            boolean letters = isLetter(signAt(start));
            if (!letters && !isDigit(signAt(start))) return end;
            while (end < length && (letters ? isLetter(signAt(end)) : isDigit(signAt(end)))) end++;
            return end;
        }

        private void addToken(int sort, int start, int value) {
            int token = tokens.add();
            tokens.set(token, TOKEN_SORT, sort);
            tokens.set(token, TOKEN_START, start);
            tokens.set(token, TOKEN_VALUE, value);
        }

        private int wordOf(int start, int end) {
            int word = 0;
            int first = 0;
            for (int i = 0; i < WORDS.length(); i++) {
                if (WORDS.charAt(i) != ' ') continue;
                if (i - first == end - start && isSpelt(first, start, end)) return word;
                word++;
                first = i + 1;
            }
            return NO_WORD;
        }

        private boolean isSpelt(int first, int start, int end) {
            for (int i = start; i < end; i++) {
                if (first + i - start >= WORDS.length() || WORDS.charAt(first + i - start) != signAt(i)) return false;
            }
            return true;
        }

        /** A NUMBER of more than three digits is no NUMBER: -1. */
        private int numberOf(int start, int end) {
            if (end - start > 3) return -1;
            int value = 0;
            for (int i = start; i < end; i++) value = 10 * value + signAt(i) - '0';
            return value;
        }

        private int sort() {
            return tokens.get(at, TOKEN_SORT);
        }

        private int word() {
            return tokens.get(at, TOKEN_SORT) == NAME ? tokens.get(at, TOKEN_VALUE) : NO_WORD;
        }

        private boolean passes(boolean fits) {
            if (fits) at++;
            return fits;
        }

        private boolean passNumber(int most) {
            number = tokens.get(at, TOKEN_VALUE);
            return passes(tokens.get(at, TOKEN_SORT) == NUMBER && isWithin(number, 0, most));
        }

        private boolean passRule() {
            if (rules.isFull() || !passKinds()) return false;
            int sort = word() - STAND;
            if (!passes(isWithin(sort, 0, RANK - STAND))) return false;
            int n = NONE;
            if (sort == RULE_RANKS) {
                if (!passNumber(9)) return false;
                n = number;
            }
            int from = signs.count;
            if (passes(word() == IF) && !passCond(this, JOINED_BY_OR, 0)) return false;
            if (!passes(sort() == ';')) return false;
            int rule = rules.add();
            rules.set(rule, RULE_SORT, sort);
            rules.set(rule, RULE_KINDS, kinds);
            rules.set(rule, RULE_N, n);
            rules.set(rule, RULE_SIGNS_FROM, from);
            rules.set(rule, RULE_SIGNS_TO, signs.count);
            return true;
        }

        private boolean passKinds() {
            kinds = 0;
            for (int i = 0; i < TAPE_BYTES; i++) {
                int kind = word();
                if (!passes(isWithin(kind, 0, KINDS - 1))) return false;
                kinds |= 1 << kind;
                if (!passes(word() == AND)) return true;
            }
            return false;
        }

        /** COND, ALL or ONE, as the level tells, within so many "(" that are open. */
        private static boolean passCond(Text text, int level, int open) {
            if (level == ONE) return text.passOne(open);
            if (!passCond(text, level + 1, open)) return false;
            int joint = level == JOINED_BY_OR ? OR : AND;
            for (int i = 0; i < TAPE_BYTES && text.passes(text.word() == joint); i++) {
                if (!passCond(text, level + 1, open)) return false;
                text.addSign(joint, 0);
            }
            return true;
        }

        private boolean passOne(int open) {
            boolean isTurned = false;
            for (int i = 0; i < TAPE_BYTES && passes(word() == NOT); i++) isTurned = !isTurned;
            if (sort() == '(') {
                if (!passes(open < MOST_OPEN) || !passCond(this, JOINED_BY_OR, open + 1)) return false;
                if (!passes(sort() == ')')) return false;
            } else if (!passQuestion()) {
                return false;
            }
            if (isTurned) addSign(NOT, 0);
            return true;
        }

        private boolean passQuestion() {
            int word = word();
            if (!passes(word == ORDER || word == AMOUNT || word == DATED || word == HELD)) return false;
            if (word == AMOUNT && !passes(word() == ABOVE)) return false;
            if (word == DATED && !passes(word() == WITHIN)) return false;
            if (word == HELD) number = 0;
            else if (!passNumber(word == ORDER ? ORDERS - 1 : 999)) return false;
            addSign(word, number);
            return true;
        }

        private void addSign(int word, int n) {
            int sign = signs.add();
            signs.set(sign, SIGN_WORD, word);
            signs.set(sign, SIGN_N, n);
        }
    }

    /** THE RIDE, its ROWS, and THE READER. */
    private static final class Ride {
        private final Land land;
        /** ROWS as they were altered since, and as they were told. */
        private final Table rows = new Table(RIDE_HOUSES, ROW_COLUMNS), told = new Table(RIDE_HOUSES, ROW_COLUMNS);
        /** The ways that are tried: the HOUSE at each step of this one, and of the best one so far. */
        private final Table way = new Table(RIDE_HOUSES, 1), best = new Table(RIDE_HOUSES, 1);
        private int bestTimely, bestEnd;

        Ride(Land land) {
            this.land = land;
            way.addAll();
        }

        void reckon(int place, int set) {
            bestTimely = -1;
            bestEnd = 0;
            tryAll(this, 0, place, set, land.today, 0);
            rows.cut(0);
            int day = land.today;
            int from = place;
            for (int i = 0; i < best.count; i++) {
                int house = best.get(i, 0);
                int to = land.houses.get(house, HOUSE_PLACE);
                day += land.roads.get(from, to);
                int row = rows.add();
                rows.set(row, ROW_HOUSE, house);
                rows.set(row, ROW_DAY, day);
                day++;
                from = to;
            }
            told.copy(rows);
        }

        /** All ways on from a PLACE on a DAY to those HOUSES that are left; of equal ones the first stays. */
        private static void tryAll(Ride ride, int step, int place, int left, int day, int timely) {
            if (left == 0) {
                ride.weigh(step, day, timely);
                return;
            }
            if (step >= RIDE_HOUSES || timely + Integer.bitCount(left) < ride.bestTimely) return;
            for (int house = 0; house < ride.land.houses.count; house++) {
                if ((left >> house & 1) == 0) continue;
                int to = ride.land.houses.get(house, HOUSE_PLACE);
                int comes = day + ride.land.roads.get(place, to);
                int inTime = comes <= ride.land.houses.get(house, HOUSE_DUE) ? 1 : 0;
                ride.way.set(step, 0, house);
                tryAll(ride, step + 1, to, left & ~(1 << house), comes + 1, timely + inTime);
            }
        }

        private void weigh(int steps, int end, int timely) {
            if (timely < bestTimely || timely == bestTimely && end >= bestEnd) return;
            bestTimely = timely;
            bestEnd = end;
            best.copy(way);
            best.cut(steps);
        }

        int digits() {
            int digits = 0;
            for (int i = 0; i < best.count; i++) digits = 10 * digits + best.get(i, 0);
            return 10000000 + digits;
        }

        /** THE READER. */
        int firstWrong() {
            for (int i = 0; i < rows.count; i++) {
                if (rows.get(i, ROW_HOUSE) != told.get(i, ROW_HOUSE)) return i;
                if (rows.get(i, ROW_DAY) != told.get(i, ROW_DAY)) return i;
            }
            return rows.count < told.count ? rows.count : -1;
        }
    }

    /** THE SALE. */
    private static final class Sale {
        private final Land land;
        private final Table sums = new Table(MOST_BUYERS, 1);
        /** To whom each LOT goes in the sale that is tried, and in the best one so far. */
        private final Table to = new Table(MOST_LOTS, 1), best = new Table(MOST_LOTS, 1);
        private int goal, bestFalls, bestComes;
        private boolean isFound;

        Sale(Land land) {
            this.land = land;
            sums.addAll();
            to.addAll();
        }

        /** Whether there is a SALE for a GOAL. */
        boolean reckon(int goal) {
            this.goal = goal;
            isFound = false;
            int rest = 0;
            for (int lot = 0; lot < land.lots.count; lot++) rest += land.lots.get(lot, 0);
            for (int buyer = 0; buyer < MOST_BUYERS; buyer++) sums.set(buyer, 0, 0);
            tryAll(this, 0, 0, 0, rest);
            return isFound;
        }

        /** All that can be done with the LOTS from one on; of equal sales the first stays. */
        private static void tryAll(Sale sale, int lot, int falls, int comes, int rest) {
            if (!sale.canBeBetter(falls, comes + rest)) return;
            if (lot >= sale.land.lots.count) {
                sale.isFound = true;
                sale.bestFalls = falls;
                sale.bestComes = comes;
                sale.best.copy(sale.to);
                return;
            }
            int price = sale.land.lots.get(lot, 0);
            for (int buyer = 0; buyer < sale.land.buyers.count; buyer++) {
                int coin = sale.land.buyers.get(buyer, 0);
                int before = sale.sums.get(buyer, 0);
                int after = before + price;
                int falling = before <= coin && after > coin ? 1 : 0;
                int more = Math.min(after, coin) - Math.min(before, coin);
                sale.sums.set(buyer, 0, after);
                sale.to.set(lot, 0, buyer);
                tryAll(sale, lot + 1, falls + falling, comes + more, rest - price);
                sale.sums.set(buyer, 0, before);
            }
            sale.to.set(lot, 0, NO_ROW);
            tryAll(sale, lot + 1, falls, comes, rest - price);
        }

        /** Whether a sale by which so many FALL, or more, and so much comes at the most can be the best one. */
        private boolean canBeBetter(int falls, int mostComes) {
            if (mostComes < goal) return false;
            if (!isFound || falls < bestFalls) return true;
            return falls == bestFalls && mostComes > bestComes;
        }

        int buyerOf(int lot) {
            return best.get(lot, 0);
        }
    }

    /** What the DEEDS of a FIELD tell. */
    private static final class Deeds {
        private final Land land;
        /** The DEEDS of a FIELD, by DAYS, then by numbers. */
        private final Table line = new Table(MOST_DEEDS, 1);
        private int holder, manyQuarrels, sumOwed;

        Deeds(Land land) {
            this.land = land;
        }

        /** The DEEDS of a FIELD as KNOWN on k, up to a DAY: who has it then, QUARRELS, what is owed to a PERSON. */
        void follow(int field, int day, int k, int person) {
            lineUp(field, k);
            holder = NONE;
            manyQuarrels = 0;
            sumOwed = 0;
            for (int i = 0; i < line.count; i++) {
                int deed = line.get(i, 0);
                if (land.deeds.get(deed, DEED_DAY) > day) break;
                int from = land.deeds.get(deed, DEED_FROM);
                if (i > 0 && from != holder) {
                    manyQuarrels++;
                    continue;
                }
                holder = land.deeds.get(deed, DEED_TO);
                if (from == person) sumOwed += land.deeds.get(deed, DEED_AMOUNT);
            }
        }

        private void lineUp(int field, int k) {
            line.cut(0);
            for (int deed = 0; deed < land.deeds.count; deed++) {
                if (land.deeds.get(deed, DEED_FIELD) != field || land.deeds.get(deed, DEED_KNOWN) > k) continue;
                int day = land.deeds.get(deed, DEED_DAY);
                int place = line.add();
                while (place > 0 && land.deeds.get(line.get(place - 1, 0), DEED_DAY) > day) {
                    line.set(place, 0, line.get(place - 1, 0));
                    place--;
                }
                line.set(place, 0, deed);
            }
        }
    }

    /** THE ORDER. */
    private static final class Order {
        private static final int SETS = 1 << MOST_HOUSES;

        private final Land land;
        /** By the HOUSES that have FALLEN, as bits: the most that is brought at that STEP and behind it. */
        private final Table most = new Table(SETS, 1);

        Order(Land land) {
            this.land = land;
            most.addAll();
        }

        private int fallen() {
            int set = 0;
            for (int house = 0; house < land.houses.count; house++) {
                if (land.hasFallen(house)) set |= 1 << house;
            }
            return set;
        }

        /** How much is brought by THE ORDER; behind reckonGone(). */
        int reckon() {
            int fallen = fallen();
            int all = (1 << land.houses.count) - 1;
            for (int set = all; set > fallen; set--) {
                if ((set & fallen) == fallen) most.set(set, 0, broughtAt(set) + mostBehind(set));
            }
            return mostBehind(fallen);
        }

        private int mostBehind(int set) {
            int best = 0;
            for (int house = 0; house < land.houses.count; house++) {
                if ((set >> house & 1) == 0) best = Math.max(best, most.get(set | 1 << house, 0));
            }
            return best;
        }

        /** What is brought at the STEP by which a set has FALLEN. */
        private int broughtAt(int set) {
            int sum = 0;
            for (int right = 0; right < land.rights.count; right++) {
                int kind = land.rights.get(right, RIGHT_KIND);
                if (kind != RENT && kind != LEASE || land.rights.get(right, RIGHT_GONE) != NONE) continue;
                if ((set >> land.rights.get(right, RIGHT_HOUSE) & 1) == 1) continue;
                if (!isLost(land.rights.get(right, RIGHT_LEANS), set)) sum += land.rights.get(right, RIGHT_AMOUNT);
            }
            return sum;
        }

        /** Whether what LEANS on a RIGHT (or on none) is lost, for the RIGHT's HOUSE is one of a set that FALLS. */
        private boolean isLost(int right, int set) {
            if (right == NONE) return false;
            int house = land.rights.get(right, RIGHT_HOUSE);
            return !land.hasFallen(house) && (set >> house & 1) == 1;
        }

        /** The HOUSE that FALLS at a STEP; behind reckon(). */
        int houseAt(int step) {
            int set = fallen();
            int next = NONE;
            for (int i = 0; i <= step && i < MOST_HOUSES; i++) {
                next = nextBehind(set);
                if (next == NONE) return NONE;
                set |= 1 << next;
            }
            return next;
        }

        private int nextBehind(int set) {
            int best = mostBehind(set);
            for (int house = 0; house < land.houses.count; house++) {
                if ((set >> house & 1) == 0 && most.get(set | 1 << house, 0) == best) return house;
            }
            return NONE;
        }
    }

    /** SHEETS, SHELVES, DEALS and THE TRACE. */
    private static final class Host {
        private static final int BYTES = 0, SHORTS = 1, BOOLEANS = 4, MISSING = -1;
        private static final int SHEET_SORT = 0, SHEET_LENGTH = 1, SHEET_COLUMNS = 2;
        private static final int HOLDS_RIGHT = 0, HOLDS_ROW = 1, HOLDS_NOTHING = 2;
        private static final int SHELF_HOLDS = 0, SHELF_N = 1, SHELF_LENGTH = 2, SHELF_COLUMNS = 3;
        private static final int BEARS = 0, FOLLOWS = 1, PARTS = 3;
        /** Which body a RIGHT runs: for each DEAL those of the KINDS. */
        private static final int[] BODIES = {
            10, 10, 30, 10, 50, 10, 70, 10,
            11, 20, 20, 11, 11, 11, 11, 80,
            12, 12, 12, 40, 12, 60, 71, 12,
            13, 13, 31, 13, 13, 61, 61, 13};

        private final Land land;
        private final Table sheets = new Table(SHEETS, SHEET_COLUMNS), items = new Table(SHEETS, SHEET_ITEMS);
        private final Table shelves = new Table(SHELVES, SHELF_COLUMNS);
        private final Table trace = new Table(TRACE_BODIES, 1);
        /** The RIGHT that is dealt with, and whether it was parted by 0. */
        private int dealt;
        private boolean isPartedByZero;

        Host(Land land) {
            this.land = land;
            sheets.addAll();
            items.addAll();
            shelves.addAll();
            for (int i = 0; i < SHEETS; i++) sheets.set(i, SHEET_SORT, MISSING);
            for (int i = 0; i < SHELVES; i++) shelves.set(i, SHELF_HOLDS, HOLDS_NOTHING);
        }

        void make(int sheet, int sort, int n) {
            sheets.set(sheet, SHEET_SORT, sort);
            sheets.set(sheet, SHEET_LENGTH, n);
            for (int i = 0; i < SHEET_ITEMS; i++) items.set(sheet, i, 0);
        }

        boolean isMissing(int sheet) {
            return sheets.get(sheet, SHEET_SORT) == MISSING;
        }

        boolean hasItem(int sheet, int i) {
            return i >= 0 && i < sheets.get(sheet, SHEET_LENGTH);
        }

        /** Why a SHEET can't be taken for a sort; 0: it can be. */
        int refusalOf(int sheet, int sort) {
            if (isMissing(sheet)) return NOTHING_THERE;
            return sheets.get(sheet, SHEET_SORT) == sort ? 0 : OTHER_SORT;
        }

        /** Longs need no more than an int does: what is put is an int, and their lowest 32 bits are asked. */
        int narrow(int sheet, int v) {
            switch (sheets.get(sheet, SHEET_SORT)) {
                case BYTES: return (byte) v;
                case SHORTS: return (short) v;
                case BOOLEANS: return v != 0 ? 1 : 0;
                default: return v;
            }
        }

        void hold(int shelf, int holds, int n, int length) {
            shelves.set(shelf, SHELF_HOLDS, holds);
            shelves.set(shelf, SHELF_N, n);
            shelves.set(shelf, SHELF_LENGTH, length);
        }

        /** The row stays on the SHELF as it is, when its SHEET becomes another one. */
        void holdRow(int shelf, int sheet) {
            if (isMissing(sheet)) hold(shelf, HOLDS_NOTHING, 0, 0);
            else hold(shelf, HOLDS_ROW, sheets.get(sheet, SHEET_SORT), sheets.get(sheet, SHEET_LENGTH));
        }

        /** The RIGHT that a SHELF holds, or NONE. */
        int rightOn(int shelf) {
            if (!shelves.has(shelf) || shelves.get(shelf, SHELF_HOLDS) != HOLDS_RIGHT) return NONE;
            int right = shelves.get(shelf, SHELF_N);
            return land.rights.has(right) ? right : NONE;
        }

        int takenAs(int shelf, int as) {
            if (shelves.get(shelf, SHELF_HOLDS) == HOLDS_ROW) {
                return as == 10 + shelves.get(shelf, SHELF_N) ? shelves.get(shelf, SHELF_LENGTH) : OTHER_SORT;
            }
            int right = rightOn(shelf);
            if (right == NONE) return NOTHING_THERE;
            return isOrUnder(land.rights.get(right, RIGHT_KIND), as) ? right : OTHER_SORT;
        }

        private static boolean isOrUnder(int kind, int as) {
            if (kind < 0 || kind >= ITSELF_AND_ABOVE.length || as >= KINDS) return false;
            return (ITSELF_AND_ABOVE[kind] >> as & 1) == 1;
        }

        int dealWith(int right, int deal, int x) {
            dealt = right;
            isPartedByZero = false;
            int result = body(this, bodyOf(deal), x, 0);
            return isPartedByZero ? PARTED_BY_ZERO : result;
        }

        private int bodyOf(int deal) {
            int i = deal * KINDS + land.rights.get(dealt, RIGHT_KIND);
            return i >= 0 && i < BODIES.length ? BODIES[i] : 0;
        }

        /** What a body answers. A body runs others at most six levels down. */
        private static int body(Host host, int number, int x, int level) {
            if (level > KINDS) return 0;
            int next = level + 1;
            int amount = host.land.rights.get(host.dealt, RIGHT_AMOUNT);
            int house = host.land.rights.get(host.dealt, RIGHT_HOUSE);
            host.trace.set(host.trace.add(), 0, number);
            switch (number) {
                case 10: return x + amount;
                case 11: return body(host, host.bodyOf(BEARS), x, next) * 3;
                case 12: return body(host, host.bodyOf(FOLLOWS), x, next) - house;
                case 13: return host.part(x, amount - 10);
                case 20: return body(host, 11, x, next) ^ host.dealt;
                case 30: return body(host, 10, x, next) * 2;
                case 31: return body(host, 13, x + 1, next) + house;
                case 40: return body(host, 12, x, next) + body(host, host.bodyOf(BEARS), 1, next);
                case 50: return body(host, 10, x, next) - 7;
                case 60: return body(host, 12, x, next) - body(host, host.bodyOf(FOLLOWS), 2, next);
                case 61: return 0 - body(host, 13, x, next);
                case 70: return body(host, 10, x, next) + host.dealt;
                case 71: return body(host, 60, x, next) ^ body(host, host.bodyOf(BEARS), 0, next);
                case 80: return 0 - body(host, 11, x, next);
                default: return 0;
            }
        }

        private int part(int x, int by) {
            if (by == 0) {
                isPartedByZero = true;
                return 0;
            }
            return x / by;
        }
    }
}
