/** Promises 40 to 48, sentence by sentence: each bound with what is on it and what is behind it. */
final class SalesEdgesTest {
    public static void main(String[] args) {
        lot();
        buyer();
        clear();
        falls();
        comes();
        fewest();
        most();
        lesserBuyer();
        saleRefused();
        deed();
        deedRefused();
        good();
        title();
        quarrels();
        owed();
        known();
        order();
        orderSteps();
        orderLeans();
        orderFallen();
        orderTies();
        orderRefused();
        Check.finish();
    }

    private static void lot() {
        Check.sentence(40, "A LOT: how many there are.");
        FallenHouses x = new FallenHouses();
        Check.due("lot(1)", x.lot(1), 1);
        Check.due("lot(99)", x.lot(99), 2);
        Check.sentence(40, "LOTS, 7 at most, each with a PRICE (1 to 99);");
        for (int n : Check.outside(1, 99)) Check.refused(x, Check.BAD, "lot(" + n + ")", y -> y.lot(n));
        for (int i = 3; i <= 7; i++) Check.due("lot " + i, x.lot(50), i);
        Check.due("many(7)", x.many(7), 7);
        x.buyer(300);
        Check.due("what comes of all seven", x.sale(0, 1), 300);
        Check.sentence(40, "BAD: price isn't as told; FULL.");
        Check.refused(x, Check.FULL, "lot(50), the eighth", y -> y.lot(50));
        Check.refused(x, Check.BAD, "lot(0), the eighth", y -> y.lot(0));
        Check.refused(x, Check.BAD, "lot(100), the eighth", y -> y.lot(100));
    }

    private static void buyer() {
        Check.sentence(41, "A BUYER: how many there are.");
        FallenHouses x = new FallenHouses();
        Check.due("buyer(0)", x.buyer(0), 1);
        Check.due("buyer(300)", x.buyer(300), 2);
        Check.sentence(41, "BUYERS, 3 at most, each with COIN (0 to 300).");
        for (int n : Check.outside(0, 300)) Check.refused(x, Check.BAD, "buyer(" + n + ")", y -> y.buyer(n));
        Check.due("buyer(1), the third", x.buyer(1), 3);
        Check.due("many(8)", x.many(8), 3);
        Check.sentence(41, "BAD: coin isn't as told; FULL.");
        Check.refused(x, Check.FULL, "buyer(1), the fourth", y -> y.buyer(1));
        Check.refused(x, Check.BAD, "buyer(301), the fourth", y -> y.buyer(301));
        Check.refused(x, Check.BAD, "buyer(-1), the fourth", y -> y.buyer(-1));
    }

    private static void clear() {
        Check.sentence(42, "All LOTS and BUYERS go: how many there were.");
        FallenHouses x = new FallenHouses();
        Check.due("clear(), none", x.clear(), 0);
        for (int i = 0; i < 7; i++) x.lot(9);
        Check.due("clear(), lots", x.clear(), 7);
        for (int i = 0; i < 3; i++) x.buyer(9);
        Check.due("clear(), buyers", x.clear(), 3);
        for (int i = 0; i < 7; i++) Check.due("lot", x.lot(5), i + 1);
        for (int i = 0; i < 3; i++) Check.due("buyer", x.buyer(5), i + 1);
        Check.due("clear(), both", x.clear(), 10);
        Check.due("clear() again", x.clear(), 0);
        Check.due("many(7)", x.many(7), 0);
        Check.due("many(8)", x.many(8), 0);
        Check.due("sale(0, 10), no lot", x.sale(0, 10), Check.BAD);
    }

    /** LOTS and BUYERS that are there then. */
    private static FallenHouses market(int[] prices, int... coins) {
        FallenHouses x = new FallenHouses();
        for (int price : prices) x.lot(price);
        for (int coin : coins) x.buyer(coin);
        return x;
    }

    /** THE SALE for a GOAL: how many FALL, what comes, to whom each LOT goes. */
    private static void sale(FallenHouses x, int goal, int falls, int comes, int... to) {
        Check.due("sale(" + goal + ", 0)", x.sale(goal, 0), falls);
        Check.due("sale(" + goal + ", 1)", x.sale(goal, 1), comes);
        for (int i = 0; i < to.length; i++) Check.due("sale(" + goal + ", " + (10 + i) + ")", x.sale(goal, 10 + i), to[i]);
    }

    private static void falls() {
        Check.sentence(43, "A SALE gives each LOT to a BUYER, or to none.");
        sale(market(new int[] {10, 20}, 20), 20, 0, 20, -9, 0);
        sale(market(new int[] {10, 20}), 0, 0, 0, -9, -9);
        sale(market(new int[] {}, 5), 0, 0, 0);
        sale(market(new int[] {}), 0, 0, 0);
        Check.sentence(43, "A BUYER FALLS if the PRICES of their LOTS together are above their COIN;");
        sale(market(new int[] {40, 60}, 100), 100, 0, 100, 0, 0);
        sale(market(new int[] {40, 60}, 99), 99, 1, 99, 0, 0);
        sale(market(new int[] {40, 60}, 99), 98, 1, 99, 0, 0);
        sale(market(new int[] {40, 60}, 101), 100, 0, 100, 0, 0);
        sale(market(new int[] {1}, 0), 0, 0, 0, -9);
    }

    private static void comes() {
        Check.sentence(43, "what comes of a BUYER is the lesser one of both.");
        sale(market(new int[] {99, 99}, 150), 100, 1, 150, 0, 0);
        sale(market(new int[] {99, 99}, 150), 150, 1, 150, 0, 0);
        sale(market(new int[] {99, 99}, 250), 150, 0, 198, 0, 0);
        sale(market(new int[] {99, 99, 99, 99, 99, 99, 99}, 300, 300, 300), 693, 0, 693, 0, 0, 0, 1, 1, 1, 2);
        Check.sentence(43, "None, if GOAL can't come.");
        FallenHouses x = market(new int[] {99, 99}, 150);
        Check.refused(x, Check.NONE, "sale(151, 0)", y -> y.sale(151, 0));
        Check.refused(x, Check.NONE, "sale(151, 11)", y -> y.sale(151, 11));
        FallenHouses rich = market(new int[] {99, 99}, 300);
        Check.due("sale(198, 1)", rich.sale(198, 1), 198);
        Check.refused(rich, Check.NONE, "sale(199, 1)", y -> y.sale(199, 1));
    }

    private static void fewest() {
        Check.sentence(43, "THE SALE is that with the fewest BUYERS who FALL, by which GOAL (0 to 900) comes in all, or more;");
        FallenHouses x = market(new int[] {60, 60, 60}, 100, 50, 70);
        // 60 and 60 to 0 and 2 without a fall; 130 and more only with falls
        sale(x, 0, 0, 120, 0, 2, -9);
        sale(x, 120, 0, 120, 0, 2, -9);
        sale(x, 121, 1, 170, 0, 1, 2);
        sale(x, 170, 1, 170, 0, 1, 2);
        Check.due("sale(171, 0)", x.sale(171, 0), Check.NONE);
        FallenHouses y = market(new int[] {99, 99, 99, 99}, 100, 100);
        sale(y, 198, 0, 198, 0, 1, -9, -9);
        // another lot makes one of them fall
        sale(y, 199, 1, 199, 0, 0, 0, 1);
        sale(y, 200, 2, 200, 0, 0, 1, 1);
        Check.due("sale(201, 0)", y.sale(201, 0), Check.NONE);
    }

    private static void most() {
        Check.sentence(43, "of several that by which the most comes;");
        sale(market(new int[] {30, 20, 25}, 45), 0, 0, 45, -9, 0, 0);
        sale(market(new int[] {30, 20, 25}, 54), 0, 0, 50, 0, 0, -9);
        sale(market(new int[] {30, 20, 25}, 55), 0, 0, 55, 0, -9, 0);
        sale(market(new int[] {30, 20, 25}, 19), 0, 0, 0, -9, -9, -9);
    }

    private static void lesserBuyer() {
        Check.sentence(43, "of several that in which the first LOT at which they are unlike goes to the lesser BUYER (none behind all).");
        sale(market(new int[] {10, 10, 10}, 10, 10), 0, 0, 20, 0, 1, -9);
        sale(market(new int[] {10, 20, 10}, 20, 20), 0, 0, 40, 0, 1, 0);
        sale(market(new int[] {20, 10, 10}, 20, 20), 0, 0, 40, 0, 1, 1);
        sale(market(new int[] {5, 5}, 4, 5, 5), 0, 0, 10, 1, 2);
        sale(market(new int[] {5, 5, 5}, 5), 5, 0, 5, 0, -9, -9);
    }

    private static void saleRefused() {
        Check.sentence(43, "THE SALE for a GOAL: what = 0 how many FALL, 1 what comes, 10 + l the BUYER of LOT l (-9: none). BAD: goal isn't as "
            + "told, another what, no such LOT; NONE: there is none.");
        FallenHouses x = market(new int[] {9, 9}, 9);
        Check.due("sale(0, 11)", x.sale(0, 11), -9);
        for (int goal : Check.outside(0, 900)) {
            for (int what : new int[] {0, 1, 10, 2}) Check.refused(x, Check.BAD, "sale(" + goal + ", " + what + ")", y -> y.sale(goal, what));
        }
        for (int what : new int[] {-1, 2, 9, 12, 17, Integer.MIN_VALUE, Integer.MAX_VALUE}) {
            Check.refused(x, Check.BAD, "sale(0, " + what + ")", y -> y.sale(0, what));
            Check.refused(x, Check.BAD, "sale(900, " + what + "), none, too", y -> y.sale(900, what));
        }
        for (int what : new int[] {0, 1, 10, 11}) {
            Check.refused(x, Check.NONE, "sale(10, " + what + ")", y -> y.sale(10, what));
            Check.refused(x, Check.NONE, "sale(900, " + what + ")", y -> y.sale(900, what));
        }
        FallenHouses seven = market(new int[] {9, 9, 9, 9, 9, 9, 9}, 300);
        Check.due("sale(63, 16)", seven.sale(63, 16), 0);
        Check.refused(seven, Check.BAD, "sale(63, 17)", y -> y.sale(63, 17));
        FallenHouses none = new FallenHouses();
        Check.refused(none, Check.BAD, "sale(0, 10), no lot", y -> y.sale(0, 10));
        Check.refused(none, Check.NONE, "sale(1, 0), no lot", y -> y.sale(1, 0));
    }

    private static FallenHouses persons(int many) {
        FallenHouses x = new FallenHouses();
        for (int i = 0; i < many; i++) x.person(0);
        return x;
    }

    private static void deed() {
        Check.sentence(44, "A DEED: its number.");
        FallenHouses x = persons(3);
        Check.due("deed(0, 0, 1, 0, 0)", x.deed(0, 0, 1, 0, 0), 0);
        Check.due("deed(5, 2, 0, 3599, 999)", x.deed(5, 2, 0, 3599, 999), 1);
        Check.due("title(5, 3599, 0)", x.title(5, 3599, 0), 0);
        Check.due("owed(2, 5, 3599, 0)", x.owed(2, 5, 3599, 0), 999);
        Check.sentence(44, "FIELDS 0 to 5.");
        for (int f = 0; f < 6; f++) Check.due("deed(" + f + ", ..)", x.deed(f, 0, 1, 9, 1), 2 + f);
        for (int f : Check.outside(0, 5)) Check.refused(x, Check.BAD, "deed(" + f + ", ..)", y -> y.deed(f, 0, 1, 0, 0));
        Check.sentence(44, "DEEDS, 24 at most, numbered as they come: a FIELD goes from a PERSON to another one on a DAY, with an AMOUNT owed "
            + "(0 to 999), KNOWN from TODAY on.");
        for (int i = 8; i < 24; i++) Check.due("deed " + i, x.deed(3, 0, 1, 0, 0), i);
        Check.refused(x, Check.FULL, "the twenty-fifth", y -> y.deed(0, 0, 1, 0, 0));
        Check.due("many(9)", x.many(9), 24);
        Check.refused(x, Check.BAD, "the twenty-fifth, to themselves", y -> y.deed(0, 1, 1, 0, 0));
        Check.refused(x, Check.BAD, "the twenty-fifth, of no amount", y -> y.deed(0, 0, 1, 0, 1000));
    }

    private static void deedRefused() {
        Check.sentence(44, "BAD: there is no such FIELD, PERSON (either), DAY, they are the same, or amount isn't as told; FULL.");
        FallenHouses x = persons(3);
        x.deed(0, 0, 1, 5, 5);
        for (int p : Check.outside(0, 2)) {
            Check.refused(x, Check.BAD, "from " + p, y -> y.deed(0, p, 1, 0, 0));
            Check.refused(x, Check.BAD, "to " + p, y -> y.deed(0, 1, p, 0, 0));
            Check.refused(x, Check.BAD, "from and to " + p, y -> y.deed(0, p, p, 0, 0));
        }
        for (int day : Check.noDays()) Check.refused(x, Check.BAD, "day " + day, y -> y.deed(0, 0, 1, day, 0));
        for (int p = 0; p < 3; p++) {
            int same = p;
            Check.refused(x, Check.BAD, "from " + p + " to themselves", y -> y.deed(0, same, same, 0, 0));
        }
        for (int n : Check.outside(0, 999)) Check.refused(x, Check.BAD, "amount " + n, y -> y.deed(0, 0, 1, 0, n));
        Check.due("the next one", x.deed(0, 0, 1, 0, 0), 1);
    }

    private static void good() {
        Check.sentence(45, "As KNOWN on k, by DAYS, then by numbers: a DEED is good if it is the first of the FIELD, or its PERSON from is who "
            + "has it then; else it is a QUARREL and nothing goes.");
        FallenHouses x = persons(4);
        x.deed(0, 1, 2, 20, 0);
        x.deed(0, 0, 1, 10, 0);
        x.deed(0, 1, 3, 20, 0);
        x.deed(0, 2, 3, 20, 0);
        x.deed(0, 2, 0, 30, 0);
        // on 10: 0 to 1; on 20: 1 to 2, 1 to 3 is a quarrel, 2 to 3; on 30 a quarrel
        int[][] titles = {{9, -3}, {10, 1}, {19, 1}, {20, 3}, {30, 3}, {3599, 3}};
        for (int[] t : titles) Check.due("title(0, " + t[0] + ", 0)", x.title(0, t[0], 0), t[1]);
        Check.due("quarrels(0, 0)", x.quarrels(0, 0), 2);
        // one that comes ahead of all makes the first one, and what was first is looked at as the others are
        x.deed(0, 3, 2, 5, 0);
        int[][] then = {{4, -3}, {5, 2}, {10, 2}, {20, 3}, {30, 3}};
        for (int[] t : then) Check.due("title(0, " + t[0] + ", 0)", x.title(0, t[0], 0), t[1]);
        Check.due("quarrels(0, 0)", x.quarrels(0, 0), 4);
        FallenHouses back = persons(5);
        for (int i = 4; i > 0; i--) back.deed(0, i - 1, i, 10 * i, 0);
        for (int i = 1; i <= 4; i++) {
            Check.due("title(0, " + (10 * i) + ", 0), from the last day to the first", back.title(0, 10 * i, 0), i);
        }
        Check.due("quarrels(0, 0)", back.quarrels(0, 0), 0);
        FallenHouses between = persons(5);
        for (int i : new int[] {1, 4, 2, 3}) between.deed(0, i - 1, i, 10 * i, 0);
        for (int i = 1; i <= 4; i++) Check.due("title(0, " + (10 * i) + ", 0), one comes between", between.title(0, 10 * i, 0), i);
        Check.due("quarrels(0, 0)", between.quarrels(0, 0), 0);
        x.deed(0, 0, 1, 5, 0);
        Check.due("on the same day, but with a higher number", x.title(0, 5, 0), 2);
        Check.due("quarrels(0, 0)", x.quarrels(0, 0), 5);
    }

    private static void title() {
        Check.sentence(45, "TITLE of a FIELD on a DAY, as KNOWN on k.");
        FallenHouses x = persons(3);
        x.deed(2, 0, 1, 0, 0);
        x.deed(2, 1, 2, 3599, 0);
        Check.due("title(2, 0, 0)", x.title(2, 0, 0), 1);
        Check.due("title(2, 3598, 0)", x.title(2, 3598, 0), 1);
        Check.due("title(2, 3599, 0)", x.title(2, 3599, 0), 2);
        Check.sentence(45, "TITLE on a DAY: who has it (NONE: nobody yet).");
        Check.refused(x, Check.NONE, "title(1, 3599, 0), another field", y -> y.title(1, 3599, 0));
        x.deed(3, 0, 1, 5, 0);
        Check.refused(x, Check.NONE, "title(3, 4, 0), the day ahead", y -> y.title(3, 4, 0));
        Check.due("title(3, 5, 0)", x.title(3, 5, 0), 1);
        Check.sentence(45, "BAD: there is no such FIELD, DAY, or k isn't 0 to TODAY; NONE.");
        x.days(7);
        for (int f : Check.outside(0, 5)) Check.refused(x, Check.BAD, "title(" + f + ", 5, 0)", y -> y.title(f, 5, 0));
        for (int day : Check.noDays()) Check.refused(x, Check.BAD, "title(2, " + day + ", 0)", y -> y.title(2, day, 0));
        for (int k : Check.outside(0, 7)) {
            Check.refused(x, Check.BAD, "title(2, 5, " + k + ")", y -> y.title(2, 5, k));
            Check.refused(x, Check.BAD, "title(0, 5, " + k + "), nobody yet, too", y -> y.title(0, 5, k));
        }
        Check.due("title(2, 5, 7)", x.title(2, 5, 7), 1);
    }

    private static void quarrels() {
        Check.sentence(46, "How many QUARRELS of a FIELD there are, as KNOWN on k.");
        FallenHouses x = persons(3);
        for (int i = 0; i < 24; i++) x.deed(i < 23 ? 4 : 5, 0, 1, 3599, 0);
        Check.due("quarrels(4, 0)", x.quarrels(4, 0), 22);
        Check.due("quarrels(5, 0)", x.quarrels(5, 0), 0);
        Check.due("quarrels(0, 0)", x.quarrels(0, 0), 0);
        Check.sentence(46, "BAD: there is no such FIELD, or k isn't 0 to TODAY.");
        x.days(3);
        for (int f : Check.outside(0, 5)) Check.refused(x, Check.BAD, "quarrels(" + f + ", 0)", y -> y.quarrels(f, 0));
        for (int k : Check.outside(0, 3)) Check.refused(x, Check.BAD, "quarrels(4, " + k + ")", y -> y.quarrels(4, k));
        Check.due("quarrels(4, 3)", x.quarrels(4, 3), 22);
    }

    private static void owed() {
        Check.sentence(47, "OWED to a PERSON for a FIELD on a DAY: AMOUNTS of good DEEDS of theirs up to it.");
        FallenHouses x = persons(3);
        x.deed(1, 0, 1, 10, 1);
        x.deed(1, 1, 0, 20, 2);
        x.deed(1, 2, 0, 25, 4);
        x.deed(1, 0, 2, 30, 8);
        x.deed(2, 0, 1, 10, 16);
        int[][] owed = {{0, 9, 0}, {0, 10, 1}, {0, 29, 1}, {0, 30, 9}, {0, 3599, 9}, {1, 19, 0}, {1, 20, 2}, {2, 3599, 0}};
        for (int[] o : owed) Check.due("owed(" + o[0] + ", 1, " + o[1] + ", 0)", x.owed(o[0], 1, o[1], 0), o[2]);
        Check.due("owed(0, 2, 3599, 0)", x.owed(0, 2, 3599, 0), 16);
        Check.due("owed(0, 0, 3599, 0)", x.owed(0, 0, 3599, 0), 0);
        FallenHouses much = persons(2);
        for (int i = 0; i < 24; i++) much.deed(0, i % 2, 1 - i % 2, i, 999);
        Check.due("owed for twelve", much.owed(0, 0, 3599, 0), 12 * 999);
        Check.sentence(47, "OWED to a PERSON for a FIELD on a DAY, as KNOWN on k. BAD: there is no such PERSON, FIELD, DAY, or k isn't 0 to TODAY.");
        x.days(2);
        for (int p : Check.outside(0, 2)) Check.refused(x, Check.BAD, "owed(" + p + ", 1, 5, 0)", y -> y.owed(p, 1, 5, 0));
        for (int f : Check.outside(0, 5)) Check.refused(x, Check.BAD, "owed(0, " + f + ", 5, 0)", y -> y.owed(0, f, 5, 0));
        for (int day : Check.noDays()) Check.refused(x, Check.BAD, "owed(0, 1, " + day + ", 0)", y -> y.owed(0, 1, day, 0));
        for (int k : Check.outside(0, 2)) Check.refused(x, Check.BAD, "owed(0, 1, 5, " + k + ")", y -> y.owed(0, 1, 5, k));
        Check.due("owed(0, 1, 3599, 2)", x.owed(0, 1, 3599, 2), 9);
    }

    private static void known() {
        Check.sentence(47, "KNOWN from TODAY on.");
        FallenHouses x = persons(3);
        x.days(5);
        x.deed(0, 0, 1, 100, 1);
        x.days(1);
        x.deed(0, 2, 0, 50, 2);
        x.deed(0, 2, 1, 60, 4);
        // known on 4 nothing, on 5 the first, on 6 all: then 2 to 0 on 50, a quarrel on 60, 0 to 1 on 100
        int[] titles = {Check.NONE, Check.NONE, 0};
        int[] quarrels = {0, 0, 1};
        int[] owed = {0, 0, 2};
        int[] last = {Check.NONE, 1, 1};
        for (int i = 0; i < 3; i++) {
            Check.due("title(0, 60, " + (4 + i) + ")", x.title(0, 60, 4 + i), titles[i]);
            Check.due("title(0, 3599, " + (4 + i) + ")", x.title(0, 3599, 4 + i), last[i]);
            Check.due("quarrels(0, " + (4 + i) + ")", x.quarrels(0, 4 + i), quarrels[i]);
            Check.due("owed(2, 0, 3599, " + (4 + i) + ")", x.owed(2, 0, 3599, 4 + i), owed[i]);
        }
    }

    /** So many HOUSES and a PERSON. */
    private static FallenHouses houses(int many) {
        FallenHouses x = persons(1);
        for (int i = 0; i < many; i++) x.house(0, 0, 0, 9);
        return x;
    }

    /** What THE ORDER brings, and the HOUSES in turn. */
    private static void ordered(FallenHouses x, int brings, int... houses) {
        Check.due("order(0)", x.order(0), brings);
        for (int i = 0; i < houses.length; i++) Check.due("order(" + (1 + i) + ")", x.order(1 + i), houses[i]);
        Check.refused(x, Check.BAD, "order(" + (1 + houses.length) + "), no such step", y -> y.order(1 + houses.length));
    }

    private static void order() {
        Check.sentence(48, "THE ORDER: what = 0 how much is brought, 1 + i the HOUSE that FALLS at STEP i (from 0 on).");
        ordered(houses(0), 0);
        ordered(houses(1), 0, 0);
        ordered(houses(8), 0, 0, 1, 2, 3, 4, 5, 6, 7);
        FallenHouses x = houses(8);
        for (int h = 0; h < 8; h++) x.right(1, h, 0, 8 - h, 0, 0, 0, -1);
        // the least amount falls first: 7 6 5 .. 0 at steps 0 to 7
        ordered(x, 2 + 2 * 3 + 3 * 4 + 4 * 5 + 5 * 6 + 6 * 7 + 7 * 8, 7, 6, 5, 4, 3, 2, 1, 0);
        Check.sentence(48, "ORDER: HOUSES that haven't FALLEN (all of them) FALL one behind the other, one at each STEP (0, 1 ..).");
        x.fall(0);
        x.fall(7);
        ordered(x, 3 + 2 * 4 + 3 * 5 + 4 * 6 + 5 * 7, 6, 5, 4, 3, 2, 1);
        for (int h = 1; h < 7; h++) x.fall(h);
        ordered(x, 0);
    }

    private static void orderSteps() {
        Check.sentence(48, "A rent or lease that isn't GONE TODAY brings its AMOUNT at each STEP ahead of that at which its HOUSE FALLS,");
        for (int kind = 0; kind < 8; kind++) {
            FallenHouses x = houses(2);
            x.thing(0, 0, 1);
            x.right(0, 1, 0, 1, 0, 0, 0, -1);
            x.right(kind, 0, 0, 100, 0, 0, 0, -1);
            boolean brings = kind == 1 || kind == 2;
            ordered(x, brings ? 100 : 0, brings ? 1 : 0, brings ? 0 : 1);
        }
        FallenHouses x = houses(3);
        x.right(1, 0, 0, 100, 0, 0, 0, -1);
        x.right(7, 1, 0, 1, 0, 0, 0, -1);
        x.right(2, 1, 0, 10, 3000, 3001, 0, -1);
        ordered(x, 210, 2, 1, 0);
        x.days(5);
        x.prove(1);
        ordered(x, 20, 0, 2, 1);
    }

    private static void orderLeans() {
        Check.sentence(48, "and ahead of that at which the HOUSE of the one on which it LEANS does (if it LEANS and that hasn't FALLEN).");
        FallenHouses x = houses(3);
        x.right(0, 0, 0, 1, 0, 0, 0, -1);
        x.right(1, 2, 0, 10, 0, 0, 0, 0);
        // till 0 or 2 falls, whichever is first
        ordered(x, 10, 1, 0, 2);
        x.right(1, 2, 0, 1, 0, 0, 0, -1);
        ordered(x, 12, 1, 0, 2);
        x.right(2, 0, 0, 5, 0, 0, 0, -1);
        // 10 at step 0 either way; 5 twice is more than 1 twice
        ordered(x, 10 + 10 + 1, 1, 2, 0);
        // what leans on one that leans is bound by its own house and that of the next one alone
        FallenHouses y = houses(4);
        y.right(0, 0, 0, 1, 0, 0, 0, -1);
        y.right(0, 1, 0, 1, 0, 0, 0, 0);
        y.right(1, 3, 0, 10, 0, 0, 0, 1);
        ordered(y, 20, 0, 2, 1, 3);
    }

    private static void orderFallen() {
        Check.sentence(48, "(if it LEANS and that hasn't FALLEN)");
        FallenHouses x = houses(3);
        x.right(0, 0, 0, 1, 0, 0, 0, -1);
        x.right(1, 2, 0, 10, 0, 0, 0, 0);
        x.right(1, 0, 0, 500, 0, 0, 0, -1);
        ordered(x, 1010, 1, 2, 0);
        Check.read(x, 0, "right stand;");
        x.days(1);
        x.fall(0);
        // the house of the one on which it leans has fallen, but that one stands
        ordered(x, 10, 1, 2);
        FallenHouses gone = houses(3);
        gone.right(0, 0, 0, 1, 0, 0, 0, -1);
        gone.right(1, 2, 0, 10, 0, 0, 0, 0);
        gone.fall(0);
        // that one doesn't stand: it is gone, and what leans on it
        ordered(gone, 0, 1, 2);
    }

    private static void orderTies() {
        Check.sentence(48, "THE ORDER is that with which the most is brought; of several the least HOUSE first at which they are unlike.");
        FallenHouses x = houses(4);
        for (int h : new int[] {1, 3}) x.right(2, h, 0, 7, 0, 0, 0, -1);
        ordered(x, 7 * 2 + 7 * 3, 0, 2, 1, 3);
        x.fall(0);
        ordered(x, 7 + 7 * 2, 2, 1, 3);
        FallenHouses many = houses(8);
        for (int h = 0; h < 8; h++) {
            for (int i = 0; i < 3; i++) many.right(1, h, 0, 999, 0, 0, 0, -1);
        }
        ordered(many, 3 * 999 * 28, 0, 1, 2, 3, 4, 5, 6, 7);
    }

    private static void orderRefused() {
        Check.sentence(48, "BAD: another what, no such STEP.");
        FallenHouses x = houses(3);
        x.fall(1);
        for (int what : new int[] {-1, 3, 4, 9, 10, Integer.MIN_VALUE, Integer.MAX_VALUE}) {
            Check.refused(x, Check.BAD, "order(" + what + ")", y -> y.order(what));
        }
        Check.due("order(2)", x.order(2), 2);
        FallenHouses none = new FallenHouses();
        Check.refused(none, Check.BAD, "order(1), no house", y -> y.order(1));
    }
}
