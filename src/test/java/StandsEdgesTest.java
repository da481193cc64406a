/** Promises 22 to 26, sentence by sentence: what stands, ranks, what debts get, pensions. */
final class StandsEdgesTest {
    public static void main(String[] args) {
        stands();
        kindsUnder();
        order();
        amount();
        dated();
        held();
        joined();
        versionsInForce();
        lastRule();
        why();
        rank();
        debts();
        pledges();
        enough();
        parts();
        laterRanks();
        getsRefused();
        pension();
        pensionDays();
        pensionGone();
        Check.finish();
    }

    /** A HOUSE of ORDER 2 and another one, with a RIGHT of each KIND by its number, of AMOUNT 50. */
    private static FallenHouses rights(String text) {
        FallenHouses x = new FallenHouses();
        x.person(0);
        x.house(0, 2, 0, 9);
        x.house(0, 0, 0, 9);
        x.thing(0, 0, 10);
        if (!text.isEmpty()) Check.due("read \"" + text + "\"", Check.read(x, 0, text), 0);
        for (int kind = 0; kind < 8; kind++) x.right(kind, 0, 0, 50, 0, 0, 0, -1);
        return x;
    }

    private static void standing(String text, int... stands) {
        FallenHouses x = rights(text);
        x.fall(0);
        for (int i = 0; i < 8; i++) Check.due("stands(" + i + ") by \"" + text + "\"", x.stands(i), stands[i]);
    }

    private static void stands() {
        Check.sentence(22, "Whether a RIGHT STANDS: 1, 0.");
        standing("", 0, 0, 0, 0, 0, 0, 0, 0);
        standing("right stand;", 1, 1, 1, 1, 1, 1, 1, 1);
        standing("right stand; right fall;", 0, 0, 0, 0, 0, 0, 0, 0);
        standing("right rank 3;", 0, 0, 0, 0, 0, 0, 0, 0);
        Check.sentence(22, "BAD: there is no such RIGHT; STATE: its HOUSE hasn't FALLEN.");
        FallenHouses x = rights("right stand;");
        x.right(0, 1, 0, 50, 0, 0, 0, -1);
        x.fall(0);
        for (int r : Check.outside(0, 8)) Check.refused(x, Check.BAD, "stands(" + r + ")", y -> y.stands(r));
        Check.refused(x, Check.STATE, "stands(8)", y -> y.stands(8));
        x.fall(1);
        Check.due("stands(8)", x.stands(8), 1);
    }

    private static void kindsUnder() {
        Check.sentence(22, "A KIND in a RULE is that KIND and those under it.");
        standing("right stand;", 1, 1, 1, 1, 1, 1, 1, 1);
        standing("rent stand;", 0, 1, 1, 0, 0, 0, 0, 0);
        standing("lease stand;", 0, 0, 1, 0, 0, 0, 0, 0);
        standing("alms stand;", 0, 0, 0, 1, 0, 0, 0, 0);
        standing("pension stand;", 0, 0, 0, 0, 1, 0, 0, 0);
        standing("debt stand;", 0, 0, 0, 0, 0, 1, 1, 0);
        standing("pledge stand;", 0, 0, 0, 0, 0, 0, 1, 0);
        standing("claim stand;", 0, 0, 0, 0, 0, 0, 0, 1);
        standing("right stand; rent and claim fall; lease stand;", 1, 0, 1, 1, 1, 1, 1, 0);
    }

    /** Whether a lease of AMOUNT 50 DATED 80, on a HOUSE of ORDER 2, stands if it falls on DAY 100. */
    private static void cond(String cond, int holds) {
        FallenHouses x = new FallenHouses();
        x.person(0);
        x.house(0, 2, 0, 9);
        x.right(2, 0, 0, 50, 0, 0, 80, -1);
        Check.due("read \"" + cond + "\"", Check.read(x, 0, "right stand if " + cond + ";"), 0);
        Check.until(x, 100);
        x.fall(0);
        Check.due("stands if " + cond, x.stands(0), holds);
    }

    private static void order() {
        Check.sentence(22, "On a RIGHT: order N: its HOUSE is of that ORDER;");
        for (int n = 0; n < 4; n++) cond("order " + n, n == 2 ? 1 : 0);
        cond("order 002", 1);
    }

    private static void amount() {
        Check.sentence(22, "amount above N: its AMOUNT is more;");
        cond("amount above 49", 1);
        cond("amount above 50", 0);
        cond("amount above 51", 0);
        cond("amount above 0", 1);
        cond("amount above 999", 0);
        FallenHouses x = new FallenHouses();
        x.person(0);
        x.house(0, 0, 0, 9);
        Check.read(x, 0, "right stand if amount above 998; alms stand if amount above 0;");
        x.right(0, 0, 0, 999, 0, 0, 0, -1);
        x.right(0, 0, 0, 998, 0, 0, 0, -1);
        x.right(3, 0, 0, 1, 0, 0, 0, -1);
        x.fall(0);
        int[] stands = {1, 0, 1};
        for (int i = 0; i < 3; i++) Check.due("stands(" + i + ")", x.stands(i), stands[i]);
    }

    private static void dated() {
        Check.sentence(22, "dated within N: it is a lease, and DATED N DAYS or less ahead of the DAY on which its HOUSE FELL (or behind it);");
        cond("dated within 19", 0);
        cond("dated within 20", 1);
        cond("dated within 21", 1);
        int[][] cases = {{100, 0, 1}, {99, 0, 0}, {99, 1, 1}, {101, 0, 1}, {3599, 0, 1}, {0, 100, 1}, {0, 99, 0}};
        for (int[] c : cases) {
            FallenHouses x = new FallenHouses();
            x.person(0);
            x.house(0, 0, 0, 9);
            x.right(2, 0, 0, 1, 0, 0, c[0], -1);
            Check.read(x, 0, "right stand if dated within " + c[1] + ";");
            Check.until(x, 100);
            x.fall(0);
            Check.until(x, 2000);
            Check.due("dated " + c[0] + ", within " + c[1] + " of 100", x.stands(0), c[2]);
        }
        standing("right stand if dated within 999;", 0, 0, 1, 0, 0, 0, 0, 0);
        standing("right stand if not dated within 999;", 1, 1, 0, 1, 1, 1, 1, 1);
    }

    private static void held() {
        Check.sentence(22, "held: the PERSON is ALIVE on that DAY.");
        int[][] lives = {{0, -1, 1}, {100, -1, 1}, {101, -1, 0}, {0, 100, 1}, {0, 99, 0}, {100, 100, 1}, {0, 101, 1}};
        for (int[] life : lives) {
            FallenHouses x = new FallenHouses();
            x.person(life[0]);
            x.house(0, 0, 0, 9);
            x.right(3, 0, 0, 1, 0, 0, 0, -1);
            if (life[1] >= 0) x.die(0, life[1]);
            Check.read(x, 0, "right stand if held;");
            Check.until(x, 100);
            x.fall(0);
            Check.until(x, 500);
            Check.due("held, born " + life[0] + ", dead " + life[1], x.stands(0), life[2]);
        }
    }

    private static void joined() {
        Check.sentence(22, "the last of all their RULES (stand, fall) that is of its KIND and whose COND holds tells;");
        cond("not held", 0);
        cond("not not held", 1);
        cond("not order 1 and order 2", 1);
        cond("not(order 1 and order 2)", 1);
        cond("not(order 2)and order 2", 0);
        cond("order 1 or order 2", 1);
        cond("order 1 and order 2", 0);
        cond("order 2 or order 2 and order 1", 1);
        cond("(order 2 or order 2) and order 1", 0);
        cond("order 1 and order 2 or order 2", 1);
        cond("order 1 and(order 2 or order 2)", 0);
        cond("order 1 or order 1 or order 2", 1);
        cond("order 2 and order 2 and order 1", 0);
        cond("((((order 2))))", 1);
        cond("((((order 1)or order 2)and order 2)and not order 3)", 1);
        // order 2 and held hold, order 1 doesn't
        for (int a = 0; a < 2; a++) {
            for (int b = 0; b < 2; b++) {
                for (int c = 0; c < 2; c++) joined(a, b, c);
            }
        }
    }

    private static void joined(int a, int b, int c) {
        String[] ask = {"order 1", "order 2"};
        cond(ask[a] + " or not " + ask[b], a | 1 - b);
        cond("not " + ask[a] + " or " + ask[b], 1 - a | b);
        cond(ask[a] + " and not " + ask[b], a & 1 - b);
        cond("not " + ask[a] + " and " + ask[b], 1 - a & b);
        cond("not(" + ask[a] + " or " + ask[b] + ")", 1 - (a | b));
        cond(ask[a] + " or not(" + ask[b] + " and " + ask[c] + ")", a | 1 - (b & c));
        cond(ask[a] + " or " + ask[b] + " and not " + ask[c], a | b & 1 - c);
        cond(ask[a] + " and " + ask[b] + " or not " + ask[c], a & b | 1 - c);
        cond("(" + ask[a] + " or not " + ask[b] + ")and " + ask[c], (a | 1 - b) & c);
        cond("not " + ask[a] + " or not " + ask[b] + " or not " + ask[c], 1 - a | 1 - b | 1 - c);
        cond("not not " + ask[a] + " and not not not " + ask[b] + " or " + ask[c], a & 1 - b | c);
    }

    private static void versionsInForce() {
        Check.sentence(22, "in force from TODAY on, till ahead of the DAY on which that ACT is read anew or STRUCK.");
        FallenHouses x = new FallenHouses();
        x.person(0);
        for (int i = 0; i < 5; i++) x.house(0, 0, 0, 9);
        for (int i = 0; i < 5; i++) x.right(0, i, 0, 1, 0, 0, 0, -1);
        x.days(4);
        x.fall(0);
        x.days(1);
        Check.read(x, 0, "right stand;");
        x.fall(1);
        x.days(1);
        x.fall(2);
        x.days(1);
        Check.read(x, 0, "");
        x.fall(3);
        x.days(1);
        Check.read(x, 1, "right stand;");
        x.days(1);
        x.strike(1);
        x.fall(4);
        int[] stands = {0, 1, 1, 0, 0};
        for (int i = 0; i < 5; i++) Check.due("stands(" + i + ")", x.stands(i), stands[i]);
        int[] why = {Check.NONE, 0, 0, Check.NONE, Check.NONE};
        for (int i = 0; i < 5; i++) Check.due("why(" + i + ")", x.why(i), why[i]);
        Check.sentence(22, "A RIGHT on a HOUSE that FELL STANDS by the VERSIONS in force on that DAY, by their ACTS' numbers:");
        FallenHouses y = rights("right fall;");
        y.days(1);
        Check.read(y, 3, "right stand;");
        Check.read(y, 2, "debt and right fall;");
        Check.read(y, 1, "right stand;");
        y.fall(0);
        Check.due("the last act, read first", y.stands(0), 1);
        y.days(1);
        y.strike(3);
        Check.due("struck later", y.stands(0), 1);
    }

    private static void lastRule() {
        Check.sentence(22, "without one it doesn't.");
        standing("alms stand;", 0, 0, 0, 1, 0, 0, 0, 0);
        standing("right stand if amount above 50;", 0, 0, 0, 0, 0, 0, 0, 0);
        standing("right stand; right fall if amount above 50;", 1, 1, 1, 1, 1, 1, 1, 1);
        standing("right stand; right fall if amount above 49;", 0, 0, 0, 0, 0, 0, 0, 0);
        standing("right fall; debt stand; pledge fall if order 2;", 0, 0, 0, 0, 0, 1, 0, 0);
        standing("right stand; right rank 1; right rank 2;", 1, 1, 1, 1, 1, 1, 1, 1);
    }

    private static void why() {
        Check.sentence(23, "WHY: that RULE: 100 times the VERSION and its number in it.");
        FallenHouses x = rights("alms fall; right stand; right rank 4; rent fall; debt fall if amount above 50;");
        for (int v = 1; v < 12; v++) Check.read(x, v % 2 + 1, "right rank 5; pension stand;");
        x.fall(0);
        int[] why = {1, 3, 3, 1, 1101, 1, 1, 1};
        for (int i = 0; i < 8; i++) Check.due("why(" + i + ")", x.why(i), why[i]);
        FallenHouses last = rights("");
        for (int v = 0; v < 12; v++) Check.read(last, 3, "alms fall;".repeat(9) + "claim fall;");
        last.fall(0);
        Check.due("why(7), the last rule of the last version", last.why(7), 1109);
        Check.due("why(3)", last.why(3), 1108);
        Check.sentence(23, "WHY. BAD; STATE likewise; NONE: no RULE tells.");
        for (int r : Check.outside(0, 7)) Check.refused(x, Check.BAD, "why(" + r + ")", y -> y.why(r));
        Check.refused(last, Check.NONE, "why(0), no rule", y -> y.why(0));
        FallenHouses not = rights("right stand;");
        Check.refused(not, Check.STATE, "why(0), not fallen", y -> y.why(0));
        FallenHouses no = rights("right stand if amount above 50;");
        no.fall(0);
        Check.refused(no, Check.NONE, "why(0), no rule that holds", y -> y.why(0));
    }

    private static void rank() {
        Check.sentence(24, "RANK of a RIGHT likewise by the last RULE rank (9 without one).");
        FallenHouses x = rights("right rank 3; debt rank 0; pledge rank 9 if amount above 50; rent rank 1 if order 2; lease rank 2 if order 1;"
            + "claim rank 7; claim fall; alms rank 4 if held; alms rank 5 if not held;");
        x.fall(0);
        int[] rank = {3, 1, 1, 4, 3, 0, 0, 7};
        for (int i = 0; i < 8; i++) Check.due("rank(" + i + ")", x.rank(i), rank[i]);
        FallenHouses none = rights("right stand; alms rank 2 if order 3;");
        none.fall(0);
        for (int i = 0; i < 8; i++) Check.due("rank(" + i + ") without one", none.rank(i), 9);
        FallenHouses acts = rights("debt rank 6;");
        Check.read(acts, 2, "right rank 5;");
        Check.read(acts, 1, "debt rank 4;");
        acts.days(1);
        acts.fall(0);
        acts.strike(2);
        Check.due("by their acts' numbers, struck on that day", acts.rank(5), 4);
        Check.sentence(24, "RANK. BAD; STATE likewise.");
        for (int r : Check.outside(0, 7)) Check.refused(x, Check.BAD, "rank(" + r + ")", y -> y.rank(r));
        FallenHouses not = rights("right rank 3;");
        Check.refused(not, Check.STATE, "rank(0), not fallen", y -> y.rank(0));
    }

    /** A HOUSE with COIN, on which there are DEBTS of AMOUNTS, in turn; those are told that each gets. */
    private static void shares(int coin, String text, int[] amounts, int... due) {
        FallenHouses x = new FallenHouses();
        x.person(0);
        x.house(0, 0, coin, 9);
        Check.read(x, 0, text);
        for (int amount : amounts) x.right(5, 0, 0, amount, 0, 0, 0, -1);
        x.fall(0);
        for (int i = 0; i < due.length; i++) Check.due("gets(" + i + ") of " + coin + " by \"" + text + "\"", x.gets(i), due[i]);
    }

    private static void debts() {
        Check.sentence(25, "DEBTS: its debts and pledges that STAND.");
        FallenHouses x = new FallenHouses();
        x.person(0);
        for (int i = 0; i < 2; i++) x.house(0, 0, 100, 9);
        x.thing(0, 0, 1);
        Check.read(x, 0, "right stand; debt fall if amount above 500;");
        for (int kind : new int[] {0, 1, 2, 3, 4, 6, 7}) x.right(kind, 0, 0, 400, 0, 0, 0, -1);
        x.right(5, 0, 0, 501, 0, 0, 0, -1);
        x.right(5, 1, 0, 400, 0, 0, 0, -1);
        x.right(5, 0, 0, 400, 0, 0, 0, -1);
        x.fall(0);
        x.fall(1);
        // 101 less the pledge's 1: 399 and 400 of 799 wanted
        Check.due("gets(5), the pledge", x.gets(5), 1 + 50);
        Check.due("gets(9), the debt", x.gets(9), 50);
        Check.due("gets(8), of the other house", x.gets(8), 100);
    }

    private static void pledges() {
        Check.sentence(25, "A pledge takes WORTH of its THING first, as much as its AMOUNT (what the THING is worth more is HAD).");
        int[][] cases = {{50, 40, 0, 40, 10}, {50, 50, 0, 50, 0}, {50, 51, 0, 50, 0}, {50, 51, 1, 50, 0}, {50, 51, 2, 51, 1}};
        for (int[] c : cases) {
            FallenHouses x = new FallenHouses();
            x.person(0);
            x.house(0, 0, c[2], 9);
            x.thing(0, 0, c[0]);
            Check.read(x, 0, "debt stand; debt rank 8; pledge rank 9;");
            x.right(6, 0, 0, c[1], 0, 0, 0, -1);
            x.right(5, 0, 0, c[2] == 2 ? 1 : 999, 0, 0, 0, -1);
            x.fall(0);
            String call = "a thing of " + c[0] + " for " + c[1] + ", coin " + c[2];
            Check.due(call, x.gets(0), c[3]);
            Check.due(call + ", the debt of rank 8", x.gets(1), c[2] + (c[2] == 2 ? -1 : c[4]));
        }
        Check.sentence(25, "What is left of HAD (but for THINGS pledged by pledges that STAND) goes to what is left of DEBTS by RANKS, 0 first:");
        FallenHouses x = new FallenHouses();
        x.person(0);
        x.house(0, 0, 7, 9);
        x.thing(0, 0, 50);
        x.thing(0, 0, 30);
        Check.read(x, 0, "debt stand; pledge fall if amount above 500;");
        x.right(6, 0, 0, 501, 0, 0, 0, -1);
        x.right(6, 0, 0, 30, 0, 0, 1, -1);
        x.right(5, 0, 0, 999, 0, 0, 0, -1);
        Check.due("fall(0)", x.fall(0), 87);
        Check.due("gets(2), with what a pledge that fell pledged", x.gets(2), 57);
        Check.due("gets(1)", x.gets(1), 30);
        shares(10, "debt stand; debt rank 1; debt rank 0 if amount above 10;", new int[] {10, 11}, 0, 10);
        shares(12, "debt stand; debt rank 9; debt rank 8 if amount above 10;", new int[] {10, 11}, 1, 11);
    }

    private static void enough() {
        Check.sentence(25, "of those of one RANK each gets what it has AMOUNT left for, if there is enough for all;");
        shares(100, "debt stand;", new int[] {60, 40}, 60, 40);
        shares(101, "debt stand;", new int[] {60, 40}, 60, 40);
        shares(9999, "debt stand;", new int[] {999, 1, 999}, 999, 1, 999);
        shares(0, "debt stand;", new int[] {1, 1}, 0, 0);
    }

    private static void parts() {
        Check.sentence(25, "else each its part of what there is, the rest away, and what is left then goes one by one by numbers, to those that "
            + "still want;");
        // 59 and 39, one left
        shares(99, "debt stand;", new int[] {60, 40}, 60, 39);
        shares(2, "debt stand;", new int[] {1, 1, 1}, 1, 1, 0);
        shares(5, "debt stand;", new int[] {3, 3, 3}, 2, 2, 1);
        // 0, 4 and 4: one left for the first, that has none yet
        shares(9, "debt stand;", new int[] {1, 9, 9}, 1, 4, 4);
        // what is left goes to none of another rank, though its number is the least
        shares(201, "debt stand; debt rank 1; debt rank 0 if amount above 100;", new int[] {5, 201, 201, 5}, 0, 101, 100, 0);
        shares(998, "debt stand;", new int[] {999, 999, 999}, 333, 333, 332);
        // a pledge that has all that it wants is passed over
        FallenHouses x = new FallenHouses();
        x.person(0);
        x.house(0, 0, 1, 9);
        x.thing(0, 0, 5);
        Check.read(x, 0, "debt stand;");
        x.right(6, 0, 0, 5, 0, 0, 0, -1);
        x.right(5, 0, 0, 9, 0, 0, 0, -1);
        x.right(5, 0, 0, 9, 0, 0, 0, -1);
        x.fall(0);
        int[] gets = {5, 1, 0};
        for (int i = 0; i < 3; i++) Check.due("gets(" + i + ")", x.gets(i), gets[i]);
    }

    private static void laterRanks() {
        Check.sentence(25, "later RANKS get nothing. GETS of a DEBT: all that.");
        String text = "debt stand; debt rank 0 if amount above 100; debt rank 1 if not amount above 100;";
        shares(200, text, new int[] {201, 5}, 200, 0);
        shares(201, text, new int[] {201, 5}, 201, 0);
        shares(203, text, new int[] {201, 5}, 201, 2);
        shares(206, text, new int[] {201, 5}, 201, 5);
        // a pledge of a later rank keeps what it took first
        FallenHouses x = new FallenHouses();
        x.person(0);
        x.house(0, 0, 50, 9);
        x.thing(0, 0, 20);
        Check.read(x, 0, "debt stand; debt rank 0; pledge rank 1;");
        x.right(5, 0, 0, 51, 0, 0, 0, -1);
        x.right(6, 0, 0, 30, 0, 0, 0, -1);
        x.fall(0);
        Check.due("gets(0)", x.gets(0), 50);
        Check.due("gets(1)", x.gets(1), 20);
    }

    private static void getsRefused() {
        Check.sentence(25, "GETS of a DEBT. BAD: there is no such RIGHT; STATE: its HOUSE hasn't FALLEN, it is no debt or pledge, or doesn't STAND.");
        FallenHouses x = rights("right stand; debt fall if order 0;");
        x.thing(1, 0, 9);
        x.right(5, 1, 0, 50, 0, 0, 0, -1);
        x.right(6, 1, 0, 50, 0, 0, 1, -1);
        for (int r : Check.outside(0, 9)) Check.refused(x, Check.BAD, "gets(" + r + ")", y -> y.gets(r));
        for (int r = 0; r < 10; r++) {
            int right = r;
            Check.refused(x, Check.STATE, "gets(" + r + "), not fallen", y -> y.gets(right));
        }
        x.fall(0);
        x.fall(1);
        for (int r : new int[] {0, 1, 2, 3, 4, 7}) Check.refused(x, Check.STATE, "gets(" + r + "), no debt", y -> y.gets(r));
        for (int r : new int[] {8, 9}) Check.refused(x, Check.STATE, "gets(" + r + "), it fell", y -> y.gets(r));
        // the house had the pledged 10, that the pledge takes
        Check.due("gets(5)", x.gets(5), 0);
        Check.due("gets(6)", x.gets(6), 10);
    }

    private static void pension() {
        Check.sentence(26, "PENSION of a PERSON in a QUARTER (0 to 39).");
        FallenHouses x = rights("");
        x.right(4, 0, 0, 60, 0, 3599, 0, -1);
        x.right(4, 1, 0, 700, 0, 3599, 0, -1);
        x.person(0);
        x.right(4, 1, 1, 1, 0, 3599, 0, -1);
        Check.due("pension(0, 0)", x.pension(0, 0), 760);
        Check.due("pension(0, 39)", x.pension(0, 39), 760);
        Check.due("pension(1, 39)", x.pension(1, 39), 1);
        Check.sentence(26, "BAD: there is no such PERSON, QUARTER.");
        for (int p : Check.outside(0, 1)) Check.refused(x, Check.BAD, "pension(" + p + ", 0)", y -> y.pension(p, 0));
        for (int q : Check.outside(0, 39)) Check.refused(x, Check.BAD, "pension(0, " + q + ")", y -> y.pension(0, q));
    }

    private static void pensionDays() {
        Check.sentence(26, "QUARTER of a DAY: it by 90.");
        int[][] cases = {{89, 0}, {90, 1}, {179, 1}, {180, 2}, {3510, 39}, {3509, 38}};
        for (int[] c : cases) {
            FallenHouses x = new FallenHouses();
            x.person(c[0]);
            x.house(0, 0, 0, 9);
            x.right(4, 0, 0, 5, 0, 3599, 0, -1);
            Check.due("born on " + c[0] + ", in quarter " + c[1], x.pension(0, c[1]), 5);
            if (c[1] > 0) Check.due("born on " + c[0] + ", in the quarter ahead", x.pension(0, c[1] - 1), 0);
        }
        Check.sentence(26, "PENSION of a PERSON in a QUARTER: the sum of AMOUNTS of pensions that they hold and that are not GONE on its "
            + "last DAY, FROM not above and TO not below that DAY, if they are ALIVE then.");
        FallenHouses x = new FallenHouses();
        x.person(0);
        x.person(0);
        x.house(0, 0, 0, 9);
        int[][] pensions = {{1, 179, 179}, {2, 178, 178}, {4, 180, 180}, {8, 0, 179}, {16, 0, 178}, {32, 179, 3599}, {64, 180, 3599}};
        for (int[] p : pensions) x.right(4, 0, 0, p[0], p[1], p[2], 0, -1);
        x.right(4, 0, 1, 128, 0, 3599, 0, -1);
        for (int kind : new int[] {0, 1, 2, 3, 5}) x.right(kind, 0, 0, 256, 0, 3599, 0, -1);
        Check.due("pension(0, 1)", x.pension(0, 1), 1 + 8 + 32);
        Check.due("pension(0, 0)", x.pension(0, 0), 8 + 16);
        Check.due("pension(0, 2)", x.pension(0, 2), 32 + 64);
        x.die(0, 179);
        Check.due("pension(0, 1), dead on its last day", x.pension(0, 1), 41);
        Check.due("pension(0, 2), dead", x.pension(0, 2), 0);
        x.die(1, 178);
        Check.due("pension(1, 1), dead the day ahead", x.pension(1, 1), 0);
        Check.due("pension(1, 0)", x.pension(1, 0), 128);
    }

    private static void pensionGone() {
        Check.sentence(26, "that are not GONE on its last DAY");
        FallenHouses x = new FallenHouses();
        x.person(0);
        for (int i = 0; i < 3; i++) x.house(0, 0, 0, 9);
        x.right(4, 0, 0, 1, 0, 3599, 0, -1);
        x.right(4, 1, 0, 2, 0, 3599, 0, -1);
        x.right(4, 2, 0, 4, 0, 3599, 0, -1);
        x.right(4, 2, 0, 8, 0, 3599, 0, 0);
        Check.until(x, 179);
        x.fall(0);
        x.days(1);
        x.fall(1);
        Check.due("pension(0, 0), gone later", x.pension(0, 0), 15);
        Check.due("pension(0, 1), gone on its last day, or behind it", x.pension(0, 1), 2 + 4);
        Check.due("pension(0, 2)", x.pension(0, 2), 4);
        Check.due("pension(0, 39)", x.pension(0, 39), 4);
        x.days(1);
        Check.read(x, 0, "pension stand;");
        x.fall(2);
        Check.due("pension(0, 39), it stands", x.pension(0, 39), 4);
    }
}
