/** Promises 18 to 26: feed, read, strike, version, stands, why, rank, gets, pension. */
final class ActsTest {
    public static void main(String[] args) {
        feed();
        faults();
        texts();
        readAndStrike();
        readFull();
        version();
        standsWhyRank();
        conds();
        sameDay();
        acrossActs();
        gets();
        getsTwoRanksAndRests();
        getsOfPledges();
        getsOfOneHouseOrOneCoin();
        longConds();
        pension();
        pensionBehindOneThatIsGone();
        Check.finish();
    }

    private static void feed() {
        FallenHouses x = new FallenHouses();
        Check.due("feed(0, 0)", x.feed(0, 0), Check.BAD);
        Check.due("feed(0, 9)", x.feed(0, 9), Check.BAD);
        Check.due("feed(0, -1)", x.feed(0, -1), Check.BAD);
        Check.due("feed(0, MIN)", x.feed(0, Integer.MIN_VALUE), Check.BAD);
        for (int i = 1; i <= 37; i++) Check.due("feed(blanks, 8)", x.feed(0x2020202020202020L, 8), 8 * i);
        Check.due("feed(.., 5)", x.feed(0x2020202020202020L, 5), Check.FULL);
        Check.due("feed(.., 4)", x.feed(0x2020202020202020L, 4), 300);
        Check.due("feed(.., 1)", x.feed(0, 1), Check.FULL);
        Check.due("feed(.., 9)", x.feed(0, 9), Check.BAD);
        Check.due("many(11)", x.many(11), 300);
        Check.due("read(0), blanks", x.read(0), 0);
        Check.due("many(11)", x.many(11), 0);
        // only the n lowest bytes come, the lowest first
        x.feed(reversed("right st"), 8);
        x.feed(reversed("andXXXXX"), 3);
        x.feed(reversed(";XXXXXXX"), 1);
        Check.due("read(0)", x.read(0), 1);
    }

    private static long reversed(String eight) {
        long number = 0;
        for (int i = 7; i >= 0; i--) number = number << 8 | eight.charAt(i);
        return number;
    }

    private static void faults() {
        fault("r", 0);
        fault("right", 5);
        fault("right   ", 8);
        fault(";", 0);
        fault("stand;", 0);
        fault("right stand;;", 12);
        fault("right stand right", 12);
        fault("right right stand;", 6);
        fault("right and", 9);
        fault("right and and stand;", 10);
        fault("right stan;", 6);
        fault("right standd;", 6);
        fault("right, stand;", 5);
        fault("Right stand;", 0);
        fault("right stand if;", 14);
        fault("right stand if", 14);
        fault("right stand if held", 19);
        fault("right stand if held held;", 20);
        fault("right stand if held and;", 23);
        fault("right stand if held or", 22);
        fault("right stand if or held;", 15);
        fault("right stand if not;", 18);
        fault("right stand if held not;", 20);
        fault("right stand if ();", 16);
        fault("right stand if (held;", 20);
        fault("right stand if held);", 19);
        fault("right stand if (((((held)))));", 19);
        fault("right stand if order;", 20);
        fault("right stand if order 4;", 21);
        fault("right stand if order 1000;", 21);
        fault("right stand if order held;", 21);
        fault("right stand if amount 5;", 22);
        fault("right stand if amount above;", 27);
        fault("right stand if amount above 1000;", 28);
        fault("right stand if amount above 0000;", 28);
        fault("right stand if amount within 5;", 22);
        fault("right stand if dated above 5;", 21);
        fault("right stand if dated within x;", 28);
        fault("right rank;", 10);
        fault("right rank 10;", 11);
        fault("right rank if held;", 11);
        fault("right stand 5;", 12);
        fault("right stand\u0000;", 11);
        fault("right\tstand;", 5);
        fault("right \u00e9stand;", 6);
        fault("right rank -1;", 11);
        fault("rightz stand;", 0);
        fault("right standz;", 6);
        fault("right stand if heldz;", 15);
        fault("right if held;", 6);
        fault("right not stand;", 6);
        fault("right claim;", 6);
        fault("order stand;", 0);
        fault("right stand if right;", 15);
        fault("right stand if above 5;", 15);
        fault("right stand if within 5;", 15);
        fault("right stand if stand;", 15);
        fault("right stand or fall;", 12);
        fault("right rank 5 5;", 13);
        fault("right stand if held if held;", 20);
        fault("right stand if held and or held;", 24);
        fault("right stand if (held and);", 24);
        fault("right stand if amount above above 5;", 28);
        fault("right rank 0010;", 11);
        fault("right stand if order 0003;", 21);
        fault("5 stand;", 0);
        fault("right stand;".repeat(10) + "lease fall;", 120);
        fault("right stand;".repeat(10) + "  x", 122);
        fault("right stand;".repeat(9) + "lease", 113);
    }

    private static void fault(String text, int place) {
        FallenHouses x = new FallenHouses();
        Check.feed(x, text);
        Check.due("read \"" + text + "\"", x.read(0), -100 - place);
        Check.due("versions behind a fault", x.many(5), 0);
        Check.due("the tape behind a fault", x.many(11), 0);
    }

    private static void texts() {
        String[] texts = {"", "   ", "right stand;", " right stand ;  ", "right rank 9;", "right rank 009 ;",
            "right and right and claim fall if held;", "right stand if order3or order 0and(held);",
            "right stand if ((((held))))and((((held))));", "right stand if not not not(not held);",
            "right stand if(amount above 999)or dated within 000;", "right stand;".repeat(10)};
        for (String text : texts) {
            FallenHouses x = new FallenHouses();
            Check.due("read \"" + text + "\"", Check.read(x, 3, text), 0);
        }
    }

    private static void readAndStrike() {
        FallenHouses x = new FallenHouses();
        Check.feed(x, "right stand;");
        Check.due("read(4)", x.read(4), Check.BAD);
        Check.due("many(11), used up", x.many(11), 0);
        Check.feed(x, "bad");
        Check.due("read(-1), bad ahead of the fault", x.read(-1), Check.BAD);
        Check.due("read(2)", Check.read(x, 2, "right stand;"), 0);
        x.days(5);
        Check.due("read(3)", Check.read(x, 3, "right fall;"), 1);
        Check.due("read(2) anew", Check.read(x, 2, "right fall;"), 2);
        int[][] of = {{2, 1, 0, 5}, {3, 1, 5, Check.NONE}, {2, 1, 5, Check.NONE}};
        for (int v = 0; v < 3; v++) {
            for (int what = 0; what < 4; what++) Check.due("version(" + v + ", " + what + ")", x.version(v, what), of[v][what]);
        }
        x.days(1);
        Check.due("strike(4)", x.strike(4), Check.BAD);
        Check.due("strike(-1)", x.strike(-1), Check.BAD);
        Check.due("strike(0)", x.strike(0), Check.NONE);
        Check.due("strike(3)", x.strike(3), 1);
        Check.due("strike(2)", x.strike(2), 2);
        Check.due("version(2, 3)", x.version(2, 3), 6);
        Check.due("strike(2)", x.strike(2), Check.NONE);
        x.days(1);
        Check.due("read(2)", Check.read(x, 2, ""), 3);
        Check.due("version(2, 3)", x.version(2, 3), 6);
        Check.due("version(0, 3)", x.version(0, 3), 5);
        Check.due("strike(2)", x.strike(2), 3);
    }

    private static void readFull() {
        FallenHouses x = new FallenHouses();
        for (int i = 0; i < 12; i++) Check.due("read", Check.read(x, i % 4, "right stand;".repeat(10)), i);
        Check.due("read, full", Check.read(x, 1, "right stand;"), Check.FULL);
        Check.due("many(11)", x.many(11), 0);
        Check.due("read, fault and full", Check.read(x, 1, "right"), -105);
        Check.due("read, bad and full", Check.read(x, 4, "right stand;"), Check.BAD);
        Check.due("version(9, 3)", x.version(9, 3), Check.NONE);
        Check.due("many(5)", x.many(5), 12);
        Check.due("version(11, 19)", x.version(11, 19), 1);
    }

    private static void version() {
        FallenHouses x = new FallenHouses();
        Check.read(x, 1, "alms fall;");
        Check.read(x, 0, "right and lease stand; claim and claim fall if held; pledge and debt rank 7 if held;");
        Check.due("version(1, 0)", x.version(1, 0), 0);
        Check.due("version(1, 1)", x.version(1, 1), 3);
        Check.due("version(1, 10)", x.version(1, 10), 5);
        Check.due("version(1, 11)", x.version(1, 11), 1128);
        Check.due("version(1, 12)", x.version(1, 12), 2096);
        Check.due("version(1, 30)", x.version(1, 30), Check.NONE);
        Check.due("version(1, 31)", x.version(1, 31), Check.NONE);
        Check.due("version(1, 32)", x.version(1, 32), 7);
        Check.due("version(0, 10)", x.version(0, 10), 1008);
        for (int what : new int[] {-1, 4, 9, 13, 20, 29, 33, 40, Integer.MAX_VALUE, Integer.MIN_VALUE}) {
            Check.due("version(1, " + what + ")", x.version(1, what), Check.BAD);
        }
        Check.due("version(2, 0)", x.version(2, 0), Check.BAD);
        Check.due("version(-1, 0)", x.version(-1, 0), Check.BAD);
    }

    private static void standsWhyRank() {
        FallenHouses x = new FallenHouses();
        x.person(0);
        x.house(0, 0, 0, 1);
        x.house(0, 0, 0, 1);
        x.thing(0, 0, 1);
        Check.read(x, 0, "alms fall; rent stand; debt stand; debt rank 3; pledge rank 5; lease fall;");
        x.right(0, 0, 0, 1, 0, 0, 0, -1);
        x.right(1, 0, 0, 1, 0, 0, 0, -1);
        x.right(2, 0, 0, 1, 0, 0, 0, -1);
        x.right(3, 0, 0, 1, 0, 0, 0, -1);
        x.right(4, 0, 0, 1, 0, 0, 0, -1);
        x.right(5, 0, 0, 1, 0, 0, 0, -1);
        x.right(6, 0, 0, 1, 0, 0, 0, -1);
        x.right(7, 0, 0, 1, 0, 0, 0, -1);
        x.right(1, 1, 0, 1, 0, 0, 0, -1);
        for (int right : new int[] {9, -1, Integer.MAX_VALUE}) {
            Check.due("stands", x.stands(right), Check.BAD);
            Check.due("why", x.why(right), Check.BAD);
            Check.due("rank", x.rank(right), Check.BAD);
        }
        x.fall(0);
        Check.due("stands(8)", x.stands(8), Check.STATE);
        Check.due("why(8)", x.why(8), Check.STATE);
        Check.due("rank(8)", x.rank(8), Check.STATE);
        int[] stands = {0, 1, 0, 0, 0, 1, 1, 0};
        int[] why = {Check.NONE, 1, 5, 0, Check.NONE, 2, 2, Check.NONE};
        int[] rank = {9, 9, 9, 9, 9, 3, 5, 9};
        for (int i = 0; i < 8; i++) {
            Check.due("stands(" + i + ")", x.stands(i), stands[i]);
            Check.due("why(" + i + ")", x.why(i), why[i]);
            Check.due("rank(" + i + ")", x.rank(i), rank[i]);
        }
        // nothing that comes later changes it
        x.days(1);
        Check.read(x, 0, "right stand;");
        Check.due("stands(3)", x.stands(3), 0);
        x.fall(1);
        Check.due("why(8)", x.why(8), 100);
    }

    /** One lease of AMOUNT 50 DATED 80, of a PERSON alive 10 to 90, on a HOUSE of ORDER 2 that falls on day 100. */
    private static void conds() {
        cond("order 2", 1);
        cond("order 1", 0);
        cond("order 002", 1);
        cond("amount above 49", 1);
        cond("amount above 50", 0);
        cond("dated within 20", 1);
        cond("dated within 19", 0);
        cond("held", 0);
        cond("not held", 1);
        cond("not not held", 0);
        cond("not not not held", 1);
        cond("held or order 2 and order 1", 0);
        cond("order 2 or held and order 1", 1);
        cond("(order 2 or held) and order 1", 0);
        cond("order 1 and held or order 2", 1);
        cond("order 1 and (held or order 2)", 0);
        cond("not order 1 and order 2", 1);
        cond("not (order 1 and order 2)", 1);
        cond("not (order 2) or held", 0);
        cond("not (order 2 and not (held or order 1))", 0);
        cond("order 2 and order 2 and held", 0);
        cond("held or held or order 2", 1);
        cond("held or (order 1 or (order 2 and (not held and amount above 1)))", 1);
        FallenHouses x = new FallenHouses();
        x.person(0);
        x.house(0, 0, 0, 1);
        Check.read(x, 0, "right stand if dated within 5;");
        x.right(2, 0, 0, 1, 0, 0, 100, -1);
        x.right(1, 0, 0, 1, 0, 0, 0, -1);
        x.fall(0);
        Check.due("dated behind the fall", x.stands(0), 1);
        Check.due("a rent is never dated", x.stands(1), 0);
    }

    private static void cond(String cond, int holds) {
        FallenHouses x = new FallenHouses();
        x.person(10);
        x.die(0, 90);
        x.house(0, 2, 0, 1);
        x.right(2, 0, 0, 50, 0, 0, 80, -1);
        Check.due("read \"" + cond + "\"", Check.read(x, 0, "right stand if " + cond + ";"), 0);
        Check.until(x, 100);
        x.fall(0);
        Check.due("stands if " + cond, x.stands(0), holds);
    }

    /** A VERSION that ends on the DAY of the fall is not in force on it; the one that comes on it is. */
    private static void sameDay() {
        FallenHouses x = new FallenHouses();
        x.person(0);
        x.house(0, 0, 0, 1);
        x.house(0, 0, 0, 1);
        x.right(1, 0, 0, 1, 0, 0, 0, -1);
        x.right(1, 1, 0, 1, 0, 0, 0, -1);
        Check.read(x, 0, "right stand;");
        x.days(3);
        x.fall(0);
        Check.due("stands(0)", x.stands(0), 1);
        Check.due("many(14)", x.many(14), 0);
        x.strike(0);
        Check.due("stands(0), struck on that day", x.stands(0), 0);
        Check.due("why(0)", x.why(0), Check.NONE);
        Check.due("many(14)", x.many(14), 1);
        Check.read(x, 0, "right fall; right stand;");
        Check.due("why(0), read anew on that day", x.why(0), 101);
        x.days(1);
        x.strike(0);
        Check.due("why(0), struck later", x.why(0), 101);
        x.fall(1);
        Check.due("why(1)", x.why(1), Check.NONE);
    }

    private static void acrossActs() {
        FallenHouses x = new FallenHouses();
        x.person(0);
        x.house(0, 0, 0, 1);
        x.right(5, 0, 0, 10, 0, 0, 0, -1);
        x.right(5, 0, 0, 500, 0, 0, 0, -1);
        Check.read(x, 3, "debt fall if amount above 100; debt rank 2 if amount above 100;");
        Check.read(x, 1, "debt stand; debt rank 6;");
        Check.read(x, 0, "debt fall; debt rank 1;");
        x.fall(0);
        Check.due("why(0), the later act", x.why(0), 100);
        Check.due("why(1), the last act whose rule holds", x.why(1), 0);
        Check.due("rank(0)", x.rank(0), 6);
        Check.due("rank(1)", x.rank(1), 2);
        Check.due("gets(0)", x.gets(0), 0);
        Check.due("gets(1), it falls", x.gets(1), Check.STATE);
    }

    private static void gets() {
        FallenHouses x = new FallenHouses();
        x.person(0);
        x.house(0, 0, 50, 1);
        x.house(0, 0, 999, 1);
        x.thing(0, 0, 80);
        x.thing(0, 0, 30);
        x.thing(0, 1, 20);
        Check.read(x, 0, "debt stand; pledge fall if amount above 500; rent stand;");
        x.right(5, 0, 0, 100, 0, 0, 0, -1);
        x.right(6, 0, 0, 60, 0, 0, 0, -1);
        x.right(6, 0, 0, 501, 0, 0, 1, -1);
        x.right(1, 0, 0, 7, 0, 0, 0, -1);
        x.right(5, 1, 0, 100, 0, 0, 0, -1);
        Check.due("gets(5)", x.gets(5), Check.BAD);
        Check.due("gets(-1)", x.gets(-1), Check.BAD);
        Check.due("gets(0), not fallen", x.gets(0), Check.STATE);
        Check.due("fall(0)", x.fall(0), 180);
        // the pledge takes 60 of 80; 120 is left, with what fell pledges pledged
        Check.due("gets(0)", x.gets(0), 100);
        Check.due("gets(1)", x.gets(1), 60);
        Check.due("gets(2), it falls", x.gets(2), Check.STATE);
        Check.due("gets(3), a rent", x.gets(3), Check.STATE);
        Check.due("gets(4), not fallen", x.gets(4), Check.STATE);
        x.sell(2);
        Check.due("gets(0), what is sold later changes nothing", x.gets(0), 100);
    }

    private static void getsTwoRanksAndRests() {
        FallenHouses x = new FallenHouses();
        x.person(0);
        x.house(0, 0, 103, 1);
        x.thing(0, 0, 10);
        Check.read(x, 0, "debt stand; debt rank 4; debt rank 1 if amount above 89 and not amount above 90; "
            + "debt rank 8 if amount above 800;");
        x.right(5, 0, 0, 7, 0, 0, 0, -1);
        x.right(5, 0, 0, 7, 0, 0, 0, -1);
        x.right(5, 0, 0, 90, 0, 0, 0, -1);
        x.right(6, 0, 0, 10, 0, 0, 0, -1);
        x.right(5, 0, 0, 6, 0, 0, 0, -1);
        x.right(5, 0, 0, 801, 0, 0, 0, -1);
        x.fall(0);
        // rank 1 takes 90 of 103; 13 of 20 that rank 4 wants: 4, 4, 3, and 2 one by one; the pledge wants nothing more
        int[] gets = {5, 5, 90, 10, 3, 0};
        for (int i = 0; i < gets.length; i++) Check.due("gets(" + i + ")", x.gets(i), gets[i]);
    }

    /** Pledges of a later RANK have what their THINGS are worth, and their parts of what is left. */
    private static void getsOfPledges() {
        FallenHouses x = new FallenHouses();
        x.person(0);
        x.house(0, 0, 50, 1);
        x.thing(0, 0, 30);
        x.thing(0, 0, 60);
        x.thing(0, 0, 9);
        Check.read(x, 0, "debt stand; debt rank 0; pledge rank 1; debt rank 2 if amount above 500;");
        x.right(5, 0, 0, 501, 0, 0, 0, -1);
        x.right(6, 0, 0, 130, 0, 0, 0, -1);
        x.right(6, 0, 0, 40, 0, 0, 1, -1);
        x.right(5, 0, 0, 39, 0, 0, 0, -1);
        x.right(6, 0, 0, 29, 0, 0, 2, -1);
        Check.due("fall(0)", x.fall(0), 149);
        // 50 and the 20 that thing 1 is worth more; 39 go to rank 0, 31 are left of the 120 that rank 1 wants:
        // 100 * 31 / 120 = 25, 20 * 31 / 120 = 5, and 1 for the first
        int[] gets = {0, 30 + 26, 40, 39, 9 + 5};
        for (int i = 0; i < gets.length; i++) Check.due("gets(" + i + ")", x.gets(i), gets[i]);
    }

    private static void getsOfOneHouseOrOneCoin() {
        FallenHouses y = new FallenHouses();
        y.person(0);
        y.house(0, 0, 1, 1);
        Check.read(y, 0, "debt stand;");
        for (int i = 0; i < 3; i++) y.right(5, 0, 0, 1, 0, 0, 0, -1);
        y.fall(0);
        for (int i = 0; i < 3; i++) Check.due("gets(" + i + ") of 1", y.gets(i), i == 0 ? 1 : 0);
        FallenHouses x = new FallenHouses();
        x.person(0);
        x.house(0, 0, 10, 1);
        x.house(0, 0, 30, 1);
        Check.read(x, 0, "debt stand;");
        for (int i = 0; i < 4; i++) x.right(5, i % 2, 0, 20, 0, 0, 0, -1);
        x.fall(0);
        x.fall(1);
        int[] gets = {5, 15, 5, 15};
        for (int i = 0; i < gets.length; i++) Check.due("gets(" + i + ")", x.gets(i), gets[i]);
    }

    /** TEXTS as long as THE TAPE, each COND with as many signs as it can hold. */
    private static void longConds() {
        FallenHouses x = new FallenHouses();
        x.person(0);
        x.house(0, 2, 0, 1);
        x.house(0, 3, 0, 1);
        x.right(0, 0, 0, 1, 0, 0, 0, -1);
        x.right(0, 1, 0, 1, 0, 0, 0, -1);
        x.die(0, 0);
        String text = "right stand if " + "held or ".repeat(34) + "order 2;";
        for (int i = 0; i < 12; i++) Check.due("read", Check.read(x, i % 4, text), i);
        x.days(1);
        x.fall(0);
        x.fall(1);
        Check.due("why(0)", x.why(0), 1100);
        Check.due("why(1)", x.why(1), Check.NONE);
        FallenHouses y = new FallenHouses();
        y.person(0);
        y.house(0, 0, 0, 1);
        y.right(0, 0, 0, 1, 0, 0, 0, -1);
        Check.due("read", Check.read(y, 0, "right stand if " + "not ".repeat(67) + "held;"), 0);
        y.fall(0);
        Check.due("why(0), an odd number of nots", y.why(0), Check.NONE);
    }

    private static void pensionBehindOneThatIsGone() {
        FallenHouses x = new FallenHouses();
        x.person(0);
        x.house(0, 0, 0, 1);
        x.house(0, 0, 0, 1);
        x.right(4, 0, 0, 10, 0, 3599, 0, -1);
        x.right(4, 1, 0, 20, 100, 3599, 0, -1);
        x.right(4, 1, 0, 40, 0, 3599, 0, -1);
        x.fall(0);
        Check.due("pension(0, 0)", x.pension(0, 0), 40);
        Check.due("pension(0, 1)", x.pension(0, 1), 60);
    }

    private static void pension() {
        FallenHouses x = new FallenHouses();
        x.person(0);
        x.person(100);
        x.house(0, 0, 0, 1);
        x.house(0, 0, 0, 1);
        x.right(4, 0, 0, 10, 0, 3599, 0, -1);
        x.right(4, 0, 0, 20, 89, 89, 0, -1);
        x.right(4, 0, 0, 40, 90, 178, 0, -1);
        x.right(4, 0, 1, 80, 0, 3599, 0, -1);
        x.right(3, 0, 0, 160, 0, 3599, 0, -1);
        x.right(4, 1, 0, 320, 180, 3599, 0, -1);
        Check.due("pension(0, -1)", x.pension(0, -1), Check.BAD);
        Check.due("pension(0, 40)", x.pension(0, 40), Check.BAD);
        Check.due("pension(2, 0)", x.pension(2, 0), Check.BAD);
        Check.due("pension(-1, 0)", x.pension(-1, 0), Check.BAD);
        Check.due("pension(0, 0)", x.pension(0, 0), 30);
        Check.due("pension(0, 1)", x.pension(0, 1), 10);
        Check.due("pension(0, 2)", x.pension(0, 2), 330);
        Check.due("pension(0, 39)", x.pension(0, 39), 330);
        Check.due("pension(1, 0), not born yet", x.pension(1, 0), 0);
        Check.due("pension(1, 1)", x.pension(1, 1), 80);
        Check.until(x, 269);
        x.fall(1);
        Check.due("pension(0, 2), gone on its last day", x.pension(0, 2), 10);
        Check.until(x, 270);
        x.fall(0);
        Check.due("pension(0, 2), not gone yet then", x.pension(0, 2), 10);
        Check.due("pension(0, 3), gone", x.pension(0, 3), 0);
        x.die(1, 179);
        Check.due("pension(1, 1), the day they die", x.pension(1, 1), 80);
        Check.due("pension(1, 2), dead", x.pension(1, 2), 0);
    }
}
