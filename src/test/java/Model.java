import java.util.ArrayList;
import java.util.Arrays;
import java.util.List;
import java.util.regex.Matcher;
import java.util.regex.Pattern;

/**
 * The document told a second time, with the Java library and by trying all there is to try: what any run of calls
 * answers. ModelTest holds it beside FallenHouses.
 */
public final class Model {
    private static final int BAD = -1, FULL = -2, NONE = -3, STATE = -4;
    private static final List<String> KINDS = List.of("right", "rent", "lease", "alms", "pension", "debt", "pledge", "claim");
    /** Under which KIND each one is; right is under none. */
    private static final int[] UNDER = {-1, 0, 1, 0, 0, 0, 5, 0};

    /** What tells of a RIGHT whether a COND holds. */
    private interface Cond {
        boolean holds(Right right, State state);
    }

    private record Rule(String tells, List<Integer> kinds, int n, Cond cond) {
    }

    private static final class Person implements Cloneable {
        int born;
        Integer died;

        boolean isAlive(int day) {
            return day >= born && (died == null || day <= died);
        }

        @Override
        public Person clone() {
            try {
                return (Person) super.clone();
            } catch (CloneNotSupportedException e) {
                throw new AssertionError(e);
            }
        }
    }

    private static final class House implements Cloneable {
        int place, order, coin, fear, due = 3599, roll;
        Integer fell, stripped, rollDay, had;

        @Override
        public House clone() {
            try {
                return (House) super.clone();
            } catch (CloneNotSupportedException e) {
                throw new AssertionError(e);
            }
        }
    }

    private static final class Thing implements Cloneable {
        int house, kind, worth, is;
        boolean showed;

        @Override
        public Thing clone() {
            try {
                return (Thing) super.clone();
            } catch (CloneNotSupportedException e) {
                throw new AssertionError(e);
            }
        }
    }

    private static final class Right implements Cloneable {
        int number, kind, house, person, amount, from, to, of;
        Integer leans, proved, seal, told;
        List<Integer> witnesses = new ArrayList<>();

        @Override
        public Right clone() {
            try {
                Right right = (Right) super.clone();
                right.witnesses = new ArrayList<>(witnesses);
                return right;
            } catch (CloneNotSupportedException e) {
                throw new AssertionError(e);
            }
        }
    }

    private record Version(int act, List<Rule> rules, int from, int to) {
        boolean isInForce(int day) {
            return from <= day && (to == NONE || day < to);
        }
    }

    private record Stay(int person, int place, int day) {
    }

    private record Deed(int number, int field, int from, int to, int day, int amount, int known) {
    }

    private static final class State {
        int today;
        int[][] road = new int[10][10];
        List<Person> persons = new ArrayList<>();
        List<House> houses = new ArrayList<>();
        List<Thing> things = new ArrayList<>();
        List<Right> rights = new ArrayList<>();
        List<Version> versions = new ArrayList<>();
        int[] seals = new int[4];
        List<Stay> stays = new ArrayList<>();
        List<Integer> lots = new ArrayList<>(), buyers = new ArrayList<>();
        List<Deed> deeds = new ArrayList<>();

        State copy() {
            State s = new State();
            s.today = today;
            for (int a = 0; a < 10; a++) s.road[a] = road[a].clone();
            for (Person person : persons) s.persons.add(person.clone());
            for (House house : houses) s.houses.add(house.clone());
            for (Thing thing : things) s.things.add(thing.clone());
            for (Right right : rights) s.rights.add(right.clone());
            s.versions.addAll(versions);
            s.seals = seals.clone();
            s.stays.addAll(stays);
            s.lots.addAll(lots);
            s.buyers.addAll(buyers);
            s.deeds.addAll(deeds);
            return s;
        }
    }

    private State now = new State();
    private State kept;
    private StringBuilder tape = new StringBuilder();
    private List<int[]> rows = new ArrayList<>(), toldRows = new ArrayList<>();
    /** Rows of a sort are arrays of Java's own. */
    private final Object[] sheets = new Object[4];
    /** The number of a RIGHT, a row, or nothing. */
    private final Object[] shelves = new Object[4];
    private List<Integer> trace = new ArrayList<>();

    public Model() {
        for (int a = 0; a < 10; a++) {
            for (int b = 0; b < 10; b++) now.road[a][b] = a == b ? 0 : 5;
        }
    }

    private static boolean in(int n, int least, int most) {
        return least <= n && n <= most;
    }

    private static boolean isDay(int n) {
        return in(n, 0, 3599);
    }

    private static boolean has(List<?> list, int n) {
        return in(n, 0, list.size() - 1);
    }

    private static int or(Integer n) {
        return n == null ? NONE : n;
    }

    // ---- the land

    public int days(int n) {
        if (!in(n, 1, 400)) return BAD;
        if (now.today + n > 3599) return STATE;
        for (int i = 0; i < n; i++) {
            now.today++;
            for (int h = 0; h < now.houses.size(); h++) {
                House house = now.houses.get(h);
                if (house.stripped == null) continue;
                int behind = now.today - house.stripped;
                if (behind < 10 || behind % 10 != 0) continue;
                Thing least = null;
                for (Thing thing : now.things) {
                    boolean rots = thing.house == h && thing.kind == 2 && thing.is <= 1;
                    if (rots && (least == null || thing.worth < least.worth)) least = thing;
                }
                if (least != null) least.is = 5;
            }
            for (int h = 0; h < now.houses.size(); h++) {
                House house = now.houses.get(h);
                if (house.fell != null || heard(h) < house.fear) continue;
                Thing best = null;
                for (Thing thing : now.things) {
                    boolean hides = thing.house == h && in(thing.kind, 1, 2) && thing.is == 0;
                    if (hides && (best == null || thing.worth > best.worth)) best = thing;
                }
                if (best != null) best.is = 1;
            }
        }
        return now.today;
    }

    private int heard(int h) {
        int many = 0;
        for (int o = 0; o < now.houses.size(); o++) {
            House other = now.houses.get(o);
            if (o == h || other.fell == null) continue;
            if (other.fell <= now.today - now.road[now.houses.get(h).place][other.place]) many++;
        }
        return now.houses.get(h).fell == null ? many : 0;
    }

    public int road(int a, int b, int n) {
        if (!in(a, 0, 9) || !in(b, 0, 9) || a == b || !in(n, 1, 20)) return BAD;
        int was = now.road[a][b];
        now.road[a][b] = n;
        now.road[b][a] = n;
        return was;
    }

    public int person(int born) {
        if (!isDay(born)) return BAD;
        if (now.persons.size() == 16) return FULL;
        Person person = new Person();
        person.born = born;
        now.persons.add(person);
        return now.persons.size() - 1;
    }

    public int die(int person, int day) {
        if (!has(now.persons, person) || !isDay(day) || day < now.persons.get(person).born) return BAD;
        if (now.persons.get(person).died != null) return STATE;
        now.persons.get(person).died = day;
        return 1;
    }

    public int house(int place, int order, int coin, int fear) {
        if (!in(place, 0, 9) || !in(order, 0, 3) || !in(coin, 0, 9999) || !in(fear, 1, 9)) return BAD;
        if (now.houses.size() == 8) return FULL;
        House house = new House();
        house.place = place;
        house.order = order;
        house.coin = coin;
        house.fear = fear;
        now.houses.add(house);
        return now.houses.size() - 1;
    }

    public int fall(int h) {
        if (!has(now.houses, h)) return BAD;
        House house = now.houses.get(h);
        if (house.fell != null) return STATE;
        house.fell = now.today;
        house.had = house.coin;
        for (Thing thing : now.things) {
            if (thing.house == h && (thing.is == 0 || thing.is == 2)) house.had += thing.worth;
        }
        return house.had;
    }

    public int houseOf(int h, int what) {
        if (!has(now.houses, h)) return BAD;
        House house = now.houses.get(h);
        if (in(what, 10, 15)) {
            int many = 0;
            for (Thing thing : now.things) many += thing.house == h && thing.is == what - 10 ? 1 : 0;
            return many;
        }
        return switch (what) {
            case 0 -> house.place;
            case 1 -> house.order;
            case 2 -> house.coin;
            case 3 -> house.fear;
            case 4 -> or(house.fell);
            case 5 -> or(house.stripped);
            case 6 -> house.due;
            case 7 -> heard(h);
            case 8 -> house.roll;
            case 9 -> or(house.rollDay);
            case 20 -> or(house.had);
            default -> BAD;
        };
    }

    // ---- things

    public int thing(int house, int kind, int worth) {
        if (!has(now.houses, house) || !in(kind, 0, 3) || !in(worth, 1, 99)) return BAD;
        if (now.houses.get(house).fell != null) return STATE;
        if (now.things.size() == 24) return FULL;
        Thing thing = new Thing();
        thing.house = house;
        thing.kind = kind;
        thing.worth = worth;
        now.things.add(thing);
        return now.things.size() - 1;
    }

    public int thingOf(int t, int what) {
        if (!has(now.things, t)) return BAD;
        Thing thing = now.things.get(t);
        return switch (what) {
            case 0 -> thing.house;
            case 1 -> thing.kind;
            case 2 -> thing.worth;
            case 3 -> thing.is;
            case 4 -> thing.showed ? 1 : 0;
            default -> BAD;
        };
    }

    public int sell(int t) {
        if (!has(now.things, t)) return BAD;
        Thing thing = now.things.get(t);
        if (thing.is != 0) return STATE;
        thing.is = 4;
        House house = now.houses.get(thing.house);
        house.coin += thing.worth;
        if (house.coin > 9999) house.coin = 9999;
        return house.coin;
    }

    public int show(int t, int person) {
        if (!has(now.things, t) || !has(now.persons, person)) return BAD;
        Thing thing = now.things.get(t);
        boolean holds = false;
        for (Right right : now.rights) {
            if (right.kind == 2 && right.person == person && right.house == thing.house && gone(right) == null) holds = true;
        }
        if (thing.is != 1 || !holds || !now.persons.get(person).isAlive(now.today)) return STATE;
        thing.showed = true;
        return 1;
    }

    public int strip(int h) {
        if (!has(now.houses, h)) return BAD;
        if (now.houses.get(h).stripped != null) return STATE;
        now.houses.get(h).stripped = now.today;
        int worth = 0;
        for (Thing thing : now.things) {
            if (thing.house != h || thing.kind != 3 || thing.is != 0) continue;
            thing.is = 3;
            worth += thing.worth;
        }
        return worth;
    }

    // ---- rights

    public int right(int kind, int house, int person, int amount, int from, int to, int of, int leans) {
        if (!in(kind, 0, 7) || !has(now.houses, house) || !has(now.persons, person) || !in(amount, 1, 999)) return BAD;
        if (!isDay(from) || !isDay(to) || to < from) return BAD;
        if (leans != -1 && !has(now.rights, leans)) return BAD;
        boolean told = switch (kind) {
            case 2 -> isDay(of);
            case 6 -> has(now.things, of) && now.things.get(of).house == house;
            case 7 -> has(now.rights, of);
            default -> of == 0;
        };
        if (!told) return BAD;
        if (now.houses.get(house).fell != null) return STATE;
        if (kind == 6 && now.things.get(of).is != 0) return STATE;
        if (now.rights.size() == 24) return FULL;
        Right right = new Right();
        right.number = now.rights.size();
        right.kind = kind;
        right.house = house;
        right.person = person;
        right.amount = amount;
        right.from = from;
        right.to = to;
        right.of = of;
        right.leans = leans == -1 ? null : (Integer) leans;
        now.rights.add(right);
        if (kind == 6) now.things.get(of).is = 2;
        return right.number;
    }

    /** From which DAY a RIGHT is GONE, or null. */
    private Integer gone(Right right) {
        List<Integer> days = new ArrayList<>();
        Integer fell = now.houses.get(right.house).fell;
        if (fell != null && !isStanding(right)) days.add(fell);
        for (Right claim : now.rights) {
            if (claim.kind == 7 && claim.of == right.number && claim.proved != null) days.add(claim.proved);
        }
        Integer below = right.leans == null ? null : gone(now.rights.get(right.leans));
        if (below != null) days.add(below);
        return days.stream().min(Integer::compare).orElse(null);
    }

    private int manyGone() {
        int many = 0;
        for (Right right : now.rights) many += gone(right) != null ? 1 : 0;
        return many;
    }

    public int rightOf(int r, int what) {
        if (!has(now.rights, r)) return BAD;
        Right right = now.rights.get(r);
        return switch (what) {
            case 0 -> right.kind;
            case 1 -> right.house;
            case 2 -> right.person;
            case 3 -> right.amount;
            case 4 -> right.from;
            case 5 -> right.to;
            case 6 -> or(right.leans);
            case 7 -> right.of;
            case 8 -> or(gone(right));
            case 9 -> Integer.bitCount(hangs(r));
            case 10 -> or(right.proved);
            default -> BAD;
        };
    }

    public int hangs(int r) {
        if (!has(now.rights, r)) return BAD;
        int bits = 0;
        for (Right right : now.rights) {
            if (right.leans != null && right.leans == r) bits |= 1 << right.number | hangs(right.number);
        }
        return bits;
    }

    public int prove(int r) {
        if (!has(now.rights, r)) return BAD;
        Right right = now.rights.get(r);
        if (right.kind != 7 || right.proved != null || gone(right) != null) return STATE;
        int before = manyGone();
        right.proved = now.today;
        return manyGone() - before;
    }

    // ---- the acts

    public int feed(long eight, int n) {
        if (!in(n, 1, 8)) return BAD;
        if (tape.length() + n > 300) return FULL;
        for (int i = 0; i < n; i++) {
            tape.append((char) (eight & 255));
            eight >>>= 8;
        }
        return tape.length();
    }

    public int read(int act) {
        String text = tape.toString();
        tape = new StringBuilder();
        if (!in(act, 0, 3)) return BAD;
        List<Rule> rules;
        try {
            rules = new Reader(text).text();
        } catch (Fault fault) {
            return -100 - fault.place;
        }
        if (now.versions.size() == 12) return FULL;
        strike(act);
        now.versions.add(new Version(act, rules, now.today, NONE));
        return now.versions.size() - 1;
    }

    public int strike(int act) {
        if (!in(act, 0, 3)) return BAD;
        int v = inForce(act, now.today);
        if (v == NONE) return NONE;
        Version version = now.versions.get(v);
        now.versions.set(v, new Version(act, version.rules, version.from, now.today));
        return v;
    }

    private int inForce(int act, int day) {
        for (int v = 0; v < now.versions.size(); v++) {
            if (now.versions.get(v).act == act && now.versions.get(v).isInForce(day)) return v;
        }
        return NONE;
    }

    public int version(int v, int what) {
        if (!has(now.versions, v)) return BAD;
        Version version = now.versions.get(v);
        if (what == 0) return version.act;
        if (what == 1) return version.rules.size();
        if (what == 2) return version.from;
        if (what == 3) return version.to;
        if (what >= 10 && what < 30 && has(version.rules, what - 10)) {
            Rule rule = version.rules.get(what - 10);
            int bits = 0;
            for (int kind : rule.kinds) bits |= 1 << kind;
            return 1000 * List.of("stand", "fall", "rank").indexOf(rule.tells) + bits;
        }
        if (what >= 30 && what < 50 && has(version.rules, what - 30)) return version.rules.get(what - 30).n;
        return BAD;
    }

    /** The last RULE, rank or other, that is of a RIGHT's KIND and whose COND holds: as WHY tells it, or NONE. */
    private int lastRule(Right right, boolean rank) {
        int last = NONE;
        int fell = now.houses.get(right.house).fell;
        for (int act = 0; act < 4; act++) {
            int v = inForce(act, fell);
            if (v == NONE) continue;
            for (int i = 0; i < now.versions.get(v).rules.size(); i++) {
                Rule rule = now.versions.get(v).rules.get(i);
                if (rule.tells.equals("rank") != rank) continue;
                boolean isOfKind = false;
                for (int kind = right.kind; kind >= 0; kind = UNDER[kind]) isOfKind |= rule.kinds.contains(kind);
                if (isOfKind && rule.cond.holds(right, now)) last = 100 * v + i;
            }
        }
        return last;
    }

    private boolean isStanding(Right right) {
        int why = lastRule(right, false);
        return why != NONE && now.versions.get(why / 100).rules.get(why % 100).tells.equals("stand");
    }

    private int rankOf(Right right) {
        int why = lastRule(right, true);
        return why == NONE ? 9 : now.versions.get(why / 100).rules.get(why % 100).n;
    }

    private int refused(int r) {
        if (!has(now.rights, r)) return BAD;
        return now.houses.get(now.rights.get(r).house).fell == null ? STATE : 0;
    }

    public int stands(int r) {
        if (refused(r) != 0) return refused(r);
        return isStanding(now.rights.get(r)) ? 1 : 0;
    }

    public int why(int r) {
        return refused(r) != 0 ? refused(r) : lastRule(now.rights.get(r), false);
    }

    public int rank(int r) {
        return refused(r) != 0 ? refused(r) : rankOf(now.rights.get(r));
    }

    public int gets(int r) {
        if (refused(r) != 0) return refused(r);
        Right asked = now.rights.get(r);
        if (asked.kind != 5 && asked.kind != 6 || !isStanding(asked)) return STATE;
        int[] gets = new int[24];
        List<Right> debts = new ArrayList<>();
        int had = now.houses.get(asked.house).had;
        for (Right debt : now.rights) {
            if (debt.house != asked.house || debt.kind != 5 && debt.kind != 6 || !isStanding(debt)) continue;
            debts.add(debt);
            if (debt.kind != 6) continue;
            int worth = now.things.get(debt.of).worth;
            gets[debt.number] = Math.min(worth, debt.amount);
            had = had - worth + (worth - gets[debt.number]);
        }
        for (int rank = 0; rank <= 9; rank++) {
            List<Right> of = new ArrayList<>();
            int wanted = 0;
            for (Right debt : debts) {
                if (rankOf(debt) != rank) continue;
                of.add(debt);
                wanted += debt.amount - gets[debt.number];
            }
            if (wanted <= had) {
                for (Right debt : of) gets[debt.number] = debt.amount;
                had -= wanted;
                continue;
            }
            int[] parts = new int[24];
            int left = had;
            for (Right debt : of) {
                parts[debt.number] = had * (debt.amount - gets[debt.number]) / wanted;
                left -= parts[debt.number];
            }
            for (Right debt : of) gets[debt.number] += parts[debt.number];
            while (left > 0) {
                for (Right debt : of) {
                    if (left == 0 || gets[debt.number] == debt.amount) continue;
                    gets[debt.number]++;
                    left--;
                }
            }
            break;
        }
        return gets[r];
    }

    public int pension(int person, int quarter) {
        if (!has(now.persons, person) || !in(quarter, 0, 39)) return BAD;
        int last = 0;
        for (int day = 0; day < 3600; day++) {
            if (day / 90 == quarter) last = day;
        }
        int sum = 0;
        for (Right right : now.rights) {
            if (right.kind != 4 || right.person != person || right.from > last || right.to < last) continue;
            Integer gone = gone(right);
            if (gone == null || gone > last) sum += right.amount;
        }
        return now.persons.get(person).isAlive(last) ? sum : 0;
    }

    // ---- leases

    private int noLease(int r, boolean isBad) {
        if (!has(now.rights, r) || isBad) return BAD;
        return now.rights.get(r).kind == 2 ? 0 : STATE;
    }

    public int witness(int r, int person) {
        int refused = noLease(r, !has(now.persons, person));
        if (refused != 0) return refused;
        List<Integer> witnesses = now.rights.get(r).witnesses;
        if (witnesses.size() == 3) return FULL;
        witnesses.add(person);
        return witnesses.size();
    }

    public int sealOf(int r, int seal) {
        int refused = noLease(r, !in(seal, -1, 3));
        if (refused != 0) return refused;
        int was = or(now.rights.get(r).seal);
        now.rights.get(r).seal = seal == -1 ? null : (Integer) seal;
        return was;
    }

    public int seal(int seal, int day) {
        if (!in(seal, 0, 3) || !isDay(day)) return BAD;
        int was = now.seals[seal];
        now.seals[seal] = day;
        return was;
    }

    public int told(int r, int day) {
        int refused = noLease(r, !isDay(day));
        if (refused != 0) return refused;
        Right right = now.rights.get(r);
        if (right.told == null || day < right.told) right.told = day;
        return right.told;
    }

    public int stay(int person, int place, int day) {
        if (!has(now.persons, person) || !in(place, 0, 9) || !isDay(day)) return BAD;
        if (now.stays.size() == 24) return FULL;
        now.stays.add(new Stay(person, place, day));
        return now.stays.size();
    }

    public int shown(int r) {
        int refused = noLease(r, false);
        if (refused != 0) return refused;
        Right right = now.rights.get(r);
        for (int person : right.witnesses) {
            if (!now.persons.get(person).isAlive(right.of)) return 1;
        }
        if (right.seal != null && right.of < now.seals[right.seal]) return 2;
        for (int i = 0; i < right.witnesses.size(); i++) {
            for (int j = 0; j < right.witnesses.size(); j++) {
                if (i != j && areApart(right.witnesses.get(i), right.witnesses.get(j), right.of)) return 3;
            }
        }
        return right.told != null && right.told - right.of > 180 ? 4 : 0;
    }

    private boolean areApart(int one, int other, int day) {
        for (Stay a : now.stays) {
            for (Stay b : now.stays) {
                if (a.person != one || b.person != other) continue;
                boolean meet = false;
                for (int place = 0; place < 10; place++) {
                    meet |= now.road[a.place][place] <= Math.abs(a.day - day) && now.road[b.place][place] <= Math.abs(b.day - day);
                }
                if (!meet) return true;
            }
        }
        return false;
    }

    // ---- commissioners

    public int value(int h, int hours) {
        if (!has(now.houses, h) || !in(hours, 0, 40)) return BAD;
        House house = now.houses.get(h);
        if (house.fell != null) return STATE;
        house.roll = 0;
        house.rollDay = now.today;
        int spent = 0;
        for (int t = 0; t < now.things.size(); t++) {
            Thing thing = now.things.get(t);
            if (thing.house != h || thing.is != 0 && !(thing.is == 1 && thing.showed)) continue;
            spent += List.of(3, 2, 1, 4).get(thing.kind);
            if (spent > hours) break;
            house.roll += 1 << t;
        }
        return house.roll;
    }

    public int due(int h, int day) {
        if (!has(now.houses, h) || !isDay(day)) return BAD;
        int was = now.houses.get(h).due;
        now.houses.get(h).due = day;
        return was;
    }

    public int ride(int place, int set, int what) {
        if (!in(place, 0, 9) || !in(what, 0, 2) || set < 0 || set >> now.houses.size() != 0 || Integer.bitCount(set) > 7) return BAD;
        if (set == 0) return NONE;
        List<List<Integer>> ways = new ArrayList<>();
        orders(set, new ArrayList<>(), ways);
        int[] best = null;
        for (List<Integer> way : ways) {
            int[] told = rideOf(place, way, new ArrayList<>());
            if (best != null && (told[0] < best[0] || told[0] == best[0] && told[1] >= best[1])) continue;
            best = told;
            rows = new ArrayList<>();
            rideOf(place, way, rows);
        }
        toldRows = new ArrayList<>();
        for (int[] row : rows) toldRows.add(row.clone());
        return best[what];
    }

    /** All ways to put a set in a row, those with the lesser one first at which they are unlike first. */
    private static void orders(int set, List<Integer> so, List<List<Integer>> all) {
        if (set == 0) all.add(new ArrayList<>(so));
        for (int i = 0; i < 8; i++) {
            if ((set >> i & 1) == 0) continue;
            so.add(i);
            orders(set & ~(1 << i), so, all);
            so.remove(so.size() - 1);
        }
    }

    private int[] rideOf(int place, List<Integer> way, List<int[]> told) {
        int day = now.today;
        int at = place;
        int timely = 0;
        StringBuilder digits = new StringBuilder();
        for (int h : way) {
            House house = now.houses.get(h);
            day += now.road[at][house.place];
            told.add(new int[] {h, day});
            if (day <= house.due) timely++;
            day++;
            at = house.place;
            digits.append(h);
        }
        return new int[] {timely, day - now.today, 10000000 + Integer.parseInt(digits.toString())};
    }

    public int row(int i, int what) {
        return has(rows, i) && in(what, 0, 1) ? rows.get(i)[what] : -9;
    }

    public int alterRow(int i, int what, int v) {
        if (!has(rows, i) || !in(what, 0, 1)) return -9;
        int was = rows.get(i)[what];
        rows.get(i)[what] = v;
        return was;
    }

    public int dropRow() {
        if (rows.isEmpty()) return NONE;
        rows.remove(rows.size() - 1);
        return rows.size();
    }

    public int judge() {
        if (toldRows.isEmpty()) return NONE;
        for (int i = 0; i < rows.size(); i++) {
            if (!Arrays.equals(rows.get(i), toldRows.get(i))) return i + 1;
        }
        return rows.size() == toldRows.size() ? 0 : rows.size() + 1;
    }

    // ---- sales, deeds, the order

    public int lot(int price) {
        if (!in(price, 1, 99)) return BAD;
        if (now.lots.size() == 7) return FULL;
        now.lots.add(price);
        return now.lots.size();
    }

    public int buyer(int coin) {
        if (!in(coin, 0, 300)) return BAD;
        if (now.buyers.size() == 3) return FULL;
        now.buyers.add(coin);
        return now.buyers.size();
    }

    public int clear() {
        int many = now.lots.size() + now.buyers.size();
        now.lots.clear();
        now.buyers.clear();
        return many;
    }

    public int sale(int goal, int what) {
        if (!in(goal, 0, 900) || what != 0 && what != 1 && !(what >= 10 && has(now.lots, what - 10))) return BAD;
        int lots = now.lots.size();
        int buyers = now.buyers.size();
        int all = 1;
        for (int l = 0; l < lots; l++) all *= buyers + 1;
        int[] best = null;
        // the first LOT's digit is the highest, and none is the highest digit: earlier ones win among equals
        for (int code = 0; code < all; code++) {
            int[] to = new int[lots];
            int rest = code;
            int[] sums = new int[buyers + 1];
            for (int l = lots - 1; l >= 0; l--) {
                to[l] = rest % (buyers + 1);
                rest /= buyers + 1;
                sums[to[l]] += now.lots.get(l);
            }
            int falls = 0;
            int comes = 0;
            for (int b = 0; b < buyers; b++) {
                if (sums[b] > now.buyers.get(b)) falls++;
                comes += Math.min(sums[b], now.buyers.get(b));
            }
            if (comes < goal) continue;
            if (best != null && (falls > best[0] || falls == best[0] && comes <= best[1])) continue;
            best = new int[10 + lots];
            best[0] = falls;
            best[1] = comes;
            for (int l = 0; l < lots; l++) best[10 + l] = to[l] == buyers ? -9 : to[l];
        }
        return best == null ? NONE : best[what];
    }

    public int deed(int field, int from, int to, int day, int amount) {
        if (!in(field, 0, 5) || !has(now.persons, from) || !has(now.persons, to) || from == to) return BAD;
        if (!isDay(day) || !in(amount, 0, 999)) return BAD;
        if (now.deeds.size() == 24) return FULL;
        now.deeds.add(new Deed(now.deeds.size(), field, from, to, day, amount, now.today));
        return now.deeds.size() - 1;
    }

    /** The DEEDS of a FIELD as KNOWN on k, good ones or QUARRELS. */
    private List<Deed> deedsOf(int field, int k, boolean good) {
        List<Deed> line = new ArrayList<>();
        for (Deed deed : now.deeds) {
            if (deed.field == field && deed.known <= k) line.add(deed);
        }
        line.sort((a, b) -> a.day != b.day ? Integer.compare(a.day, b.day) : Integer.compare(a.number, b.number));
        List<Deed> these = new ArrayList<>();
        Integer holder = null;
        for (Deed deed : line) {
            boolean isGood = holder == null || deed.from == holder;
            if (isGood) holder = deed.to;
            if (isGood == good) these.add(deed);
        }
        return these;
    }

    public int title(int field, int day, int k) {
        if (!in(field, 0, 5) || !isDay(day) || !in(k, 0, now.today)) return BAD;
        int holder = NONE;
        for (Deed deed : deedsOf(field, k, true)) {
            if (deed.day <= day) holder = deed.to;
        }
        return holder;
    }

    public int quarrels(int field, int k) {
        return in(field, 0, 5) && in(k, 0, now.today) ? deedsOf(field, k, false).size() : BAD;
    }

    public int owed(int person, int field, int day, int k) {
        if (!has(now.persons, person) || !in(field, 0, 5) || !isDay(day) || !in(k, 0, now.today)) return BAD;
        int sum = 0;
        for (Deed deed : deedsOf(field, k, true)) {
            if (deed.from == person && deed.day <= day) sum += deed.amount;
        }
        return sum;
    }

    public int order(int what) {
        int set = 0;
        for (int h = 0; h < now.houses.size(); h++) {
            if (now.houses.get(h).fell == null) set |= 1 << h;
        }
        if (!in(what, 0, Integer.bitCount(set))) return BAD;
        List<Right> bring = new ArrayList<>();
        for (Right right : now.rights) {
            if (in(right.kind, 1, 2) && gone(right) == null && (set >> right.house & 1) == 1) bring.add(right);
        }
        List<List<Integer>> all = new ArrayList<>();
        orders(set, new ArrayList<>(), all);
        int most = -1;
        List<Integer> best = null;
        for (List<Integer> one : all) {
            int brought = 0;
            for (Right right : bring) {
                int steps = one.indexOf(right.house);
                int below = right.leans == null ? -1 : one.indexOf(now.rights.get(right.leans).house);
                brought += right.amount * (below < 0 ? steps : Math.min(steps, below));
            }
            if (brought <= most) continue;
            most = brought;
            best = one;
        }
        return what == 0 ? most : best.get(what - 1);
    }

    // ---- the host

    public int sheet(int sheet, int sort, int n) {
        if (!in(sheet, 0, 3) || !in(sort, -1, 4) || sort != -1 && n > 40) return BAD;
        if (sort != -1 && n < 0) return -14;
        sheets[sheet] = switch (sort) {
            case 0 -> new byte[n];
            case 1 -> new short[n];
            case 2 -> new int[n];
            case 3 -> new long[n];
            case 4 -> new boolean[n];
            default -> null;
        };
        return 1;
    }

    private static int lengthOf(Object row) {
        return java.lang.reflect.Array.getLength(row);
    }

    private static int sortOf(Object row) {
        return List.of(byte[].class, short[].class, int[].class, long[].class, boolean[].class).indexOf(row.getClass());
    }

    public int put(int sheet, int i, int v) {
        if (!in(sheet, 0, 3)) return BAD;
        Object row = sheets[sheet];
        if (row == null) return -11;
        if (!in(i, 0, lengthOf(row) - 1)) return -12;
        if (row instanceof byte[] bytes) bytes[i] = (byte) v;
        if (row instanceof short[] shorts) shorts[i] = (short) v;
        if (row instanceof int[] ints) ints[i] = v;
        if (row instanceof long[] longs) longs[i] = v;
        if (row instanceof boolean[] booleans) booleans[i] = v != 0;
        return 1;
    }

    public int item(int sheet, int sort, int i) {
        if (!in(sheet, 0, 3) || !in(sort, 0, 4)) return BAD;
        Object row = sheets[sheet];
        if (row != null && sortOf(row) != sort) return -13;
        if (row == null) return -11;
        if (!in(i, 0, lengthOf(row) - 1)) return -12;
        if (row instanceof boolean[] booleans) return booleans[i] ? 1 : 0;
        return (int) java.lang.reflect.Array.getLong(row, i);
    }

    public int comes(int sheet, int i) {
        if (!in(sheet, 0, 3)) return BAD;
        Object row = sheets[sheet];
        if (row == null) return -11;
        if (!(row instanceof short[] shorts)) return -13;
        if (i < 0 || i >= shorts.length - 2) return -12;
        return thing(shorts[i], shorts[i + 1], shorts[i + 2]);
    }

    public int shelf(int shelf, int what, int n) {
        if (!in(shelf, 0, 3) || !in(what, 0, 2)) return BAD;
        if (what == 0 && !has(now.rights, n) || what == 1 && !in(n, 0, 3)) return BAD;
        shelves[shelf] = what == 0 ? (Integer) n : what == 1 ? sheets[n] : null;
        return 1;
    }

    private Right rightOn(int shelf) {
        return shelves[shelf] instanceof Integer n && has(now.rights, n) ? now.rights.get(n) : null;
    }

    public int taken(int shelf, int as) {
        if (!in(shelf, 0, 3) || !in(as, 0, 7) && !in(as, 10, 14)) return BAD;
        Object held = shelves[shelf] instanceof Integer ? rightOn(shelf) : shelves[shelf];
        if (held == null) return -11;
        if (!(held instanceof Right right)) return as >= 10 && sortOf(held) == as - 10 ? lengthOf(held) : -13;
        for (int kind = right.kind; kind >= 0; kind = UNDER[kind]) {
            if (kind == as) return right.number;
        }
        return -13;
    }

    public int deal(int shelf, int deal, int x) {
        trace = new ArrayList<>();
        if (!in(shelf, 0, 3) || !in(deal, 0, 3)) return 0;
        Right held = rightOn(shelf);
        if (held == null) return 0;
        Dealt dealt = switch (held.kind) {
            case 0 -> new Dealt(held, trace);
            case 1 -> new Rent(held, trace);
            case 2 -> new Lease(held, trace);
            case 3 -> new Alms(held, trace);
            case 4 -> new Pension(held, trace);
            case 5 -> new Debt(held, trace);
            case 6 -> new Pledge(held, trace);
            default -> new Claim(held, trace);
        };
        try {
            return switch (deal) {
                case 0 -> dealt.bears(x);
                case 1 -> dealt.follows(x);
                case 2 -> dealt.ranks(x);
                default -> dealt.parts(x);
            };
        } catch (ArithmeticException e) {
            return -15;
        }
    }

    public int trace(int i) {
        return has(trace, i) && i < 30 ? trace.get(i) : NONE;
    }

    public int many(int what) {
        int fallen = 0;
        for (House house : now.houses) fallen += house.fell != null ? 1 : 0;
        return switch (what) {
            case 0 -> now.today;
            case 1 -> now.persons.size();
            case 2 -> now.houses.size();
            case 3 -> now.things.size();
            case 4 -> now.rights.size();
            case 5 -> now.versions.size();
            case 6 -> now.stays.size();
            case 7 -> now.lots.size();
            case 8 -> now.buyers.size();
            case 9 -> now.deeds.size();
            case 10 -> rows.size();
            case 11 -> tape.length();
            case 12 -> Math.min(30, trace.size());
            case 13 -> fallen;
            case 14 -> manyGone();
            default -> BAD;
        };
    }

    // ---- kept

    public int keep() {
        kept = now.copy();
        return 1;
    }

    public int again() {
        if (kept == null) return NONE;
        now = kept.copy();
        return 1;
    }

    // The BODIES, as Java's own classes.

    private static class Dealt {
        final int a, h, n;
        final List<Integer> trace;

        Dealt(Right right, List<Integer> trace) {
            this.a = right.amount;
            this.h = right.house;
            this.n = right.number;
            this.trace = trace;
        }

        int bears(int x) {
            trace.add(10);
            return x + a;
        }

        int follows(int x) {
            trace.add(11);
            return bears(x) * 3;
        }

        int ranks(int x) {
            trace.add(12);
            return follows(x) - h;
        }

        int parts(int x) {
            trace.add(13);
            return x / (a - 10);
        }
    }

    private static class Rent extends Dealt {
        Rent(Right right, List<Integer> trace) {
            super(right, trace);
        }

        @Override
        int follows(int x) {
            trace.add(20);
            return super.follows(x) ^ n;
        }
    }

    private static final class Lease extends Rent {
        Lease(Right right, List<Integer> trace) {
            super(right, trace);
        }

        @Override
        int bears(int x) {
            trace.add(30);
            return super.bears(x) * 2;
        }

        @Override
        int parts(int x) {
            trace.add(31);
            return super.parts(x + 1) + h;
        }
    }

    private static final class Alms extends Dealt {
        Alms(Right right, List<Integer> trace) {
            super(right, trace);
        }

        @Override
        int ranks(int x) {
            trace.add(40);
            return super.ranks(x) + bears(1);
        }
    }

    private static final class Pension extends Dealt {
        Pension(Right right, List<Integer> trace) {
            super(right, trace);
        }

        @Override
        int bears(int x) {
            trace.add(50);
            return super.bears(x) - 7;
        }
    }

    private static class Debt extends Dealt {
        Debt(Right right, List<Integer> trace) {
            super(right, trace);
        }

        @Override
        int ranks(int x) {
            trace.add(60);
            return super.ranks(x) - follows(2);
        }

        @Override
        int parts(int x) {
            trace.add(61);
            return 0 - super.parts(x);
        }
    }

    private static final class Pledge extends Debt {
        Pledge(Right right, List<Integer> trace) {
            super(right, trace);
        }

        @Override
        int bears(int x) {
            trace.add(70);
            return super.bears(x) + n;
        }

        @Override
        int ranks(int x) {
            trace.add(71);
            return super.ranks(x) ^ bears(0);
        }
    }

    private static final class Claim extends Dealt {
        Claim(Right right, List<Integer> trace) {
            super(right, trace);
        }

        @Override
        int follows(int x) {
            trace.add(80);
            return 0 - super.follows(x);
        }
    }

    /** What can't stand where it does. */
    private static final class Fault extends Exception {
        private static final long serialVersionUID = 1;
        final int place;

        Fault(int place) {
            this.place = place;
        }
    }

    /** A TEXT, read by its grammar. */
    private static final class Reader {
        private static final Pattern TOKEN = Pattern.compile("[a-z]+|[0-9]+|[^ ]", Pattern.DOTALL);
        private final List<String> tokens = new ArrayList<>();
        private final List<Integer> places = new ArrayList<>();
        private int at;

        Reader(String text) {
            Matcher token = TOKEN.matcher(text);
            while (token.find()) {
                tokens.add(token.group());
                places.add(token.start());
            }
            tokens.add("");
            places.add(text.length());
        }

        private boolean comes(String token) {
            if (!tokens.get(at).equals(token)) return false;
            at++;
            return true;
        }

        private Fault fault() {
            return new Fault(places.get(at));
        }

        private void must(String token) throws Fault {
            if (!comes(token)) throw fault();
        }

        private int number(int most) throws Fault {
            String token = tokens.get(at);
            if (!token.matches("[0-9]{1,3}") || Integer.parseInt(token) > most) throw fault();
            at++;
            return Integer.parseInt(token);
        }

        List<Rule> text() throws Fault {
            List<Rule> rules = new ArrayList<>();
            while (!tokens.get(at).isEmpty()) {
                if (rules.size() == 10) throw fault();
                rules.add(rule());
            }
            return rules;
        }

        private Rule rule() throws Fault {
            List<Integer> kinds = new ArrayList<>();
            do {
                if (!KINDS.contains(tokens.get(at))) throw fault();
                kinds.add(KINDS.indexOf(tokens.get(at++)));
            } while (comes("and"));
            String tells = tokens.get(at);
            if (!comes("stand") && !comes("fall")) must("rank");
            int n = tells.equals("rank") ? number(9) : NONE;
            Cond cond = comes("if") ? cond(0) : (right, state) -> true;
            must(";");
            return new Rule(tells, kinds, n, cond);
        }

        private Cond cond(int open) throws Fault {
            Cond one = all(open);
            if (!comes("or")) return one;
            Cond rest = cond(open);
            return (right, state) -> one.holds(right, state) || rest.holds(right, state);
        }

        private Cond all(int open) throws Fault {
            Cond one = one(open);
            if (!comes("and")) return one;
            Cond rest = all(open);
            return (right, state) -> one.holds(right, state) && rest.holds(right, state);
        }

        private Cond one(int open) throws Fault {
            if (comes("not")) {
                Cond one = one(open);
                return (right, state) -> !one.holds(right, state);
            }
            if (comes("held")) {
                return (right, state) -> state.persons.get(right.person).isAlive(state.houses.get(right.house).fell);
            }
            if (comes("order")) {
                int n = number(3);
                return (right, state) -> state.houses.get(right.house).order == n;
            }
            if (comes("amount")) {
                must("above");
                int n = number(999);
                return (right, state) -> right.amount > n;
            }
            if (comes("dated")) {
                must("within");
                int n = number(999);
                return (right, state) -> right.kind == 2 && right.of >= state.houses.get(right.house).fell - n;
            }
            if (open == 4) throw fault();
            must("(");
            Cond cond = cond(open + 1);
            must(")");
            return cond;
        }
    }
}
