/** Promises 49 to 57, sentence by sentence: each bound with what is on it and what is behind it. */
final class HostEdgesTest {
    public static void main(String[] args) {
        sheet();
        sheetRefused();
        put();
        putRefused();
        item();
        itemRefused();
        comes();
        comesRefused();
        shelf();
        shelfRefused();
        taken();
        takenRows();
        takenRefused();
        deal();
        bodiesOfRightAndRents();
        bodiesOfOthers();
        bodiesOfDebts();
        wraps();
        partedByZero();
        dealRefused();
        trace();
        many();
        Check.finish();
    }

    private static void sheet() {
        Check.sentence(49, "SHEETS 0 to 3 are rows of bytes (sort 0), shorts (1), ints (2), longs (3) or booleans (4), 40 at most, or missing "
            + "(at first).");
        FallenHouses x = new FallenHouses();
        for (int s = 0; s < 4; s++) {
            for (int sort = 0; sort < 5; sort++) Check.due("item(" + s + ", " + sort + ", 0), missing at first", x.item(s, sort, 0), -11);
        }
        for (int s = 0; s < 4; s++) Check.due("sheet(" + s + ", " + s + ", 40)", x.sheet(s, s, 40), 1);
        for (int s = 0; s < 4; s++) {
            Check.due("item(" + s + ", " + s + ", 39)", x.item(s, s, 39), 0);
            Check.due("item(" + s + ", " + s + ", 40)", x.item(s, s, 40), -12);
        }
        Check.sentence(49, "A SHEET becomes a row of n of a sort, all 0, or missing (sort -1; n isn't looked at): 1.");
        for (int sort = 0; sort < 5; sort++) {
            x.sheet(0, sort, 40);
            for (int i = 0; i < 40; i++) x.put(0, i, 1);
            Check.due("sheet(0, " + sort + ", 40)", x.sheet(0, sort, 40), 1);
            for (int i = 0; i < 40; i++) Check.due("item " + i + " anew", x.item(0, sort, i), 0);
            x.put(0, 1, 1);
            Check.due("sheet(0, " + sort + ", 1)", x.sheet(0, sort, 1), 1);
            Check.due("item 0", x.item(0, sort, 0), 0);
            Check.due("item 1, of one", x.item(0, sort, 1), -12);
            Check.due("sheet(0, " + sort + ", 0)", x.sheet(0, sort, 0), 1);
            Check.due("item 0, of none", x.item(0, sort, 0), -12);
        }
        for (int n : new int[] {0, 1, 40, 41, -1, Integer.MIN_VALUE, Integer.MAX_VALUE}) {
            x.sheet(0, 2, 2);
            Check.due("sheet(0, -1, " + n + ")", x.sheet(0, -1, n), 1);
            Check.due("item(0, 2, 0)", x.item(0, 2, 0), -11);
            Check.due("item(3, 3, 39), another sheet", x.item(3, 3, 39), 0);
        }
    }

    private static void sheetRefused() {
        Check.sentence(49, "BAD: no such SHEET, sort, n above 40; -14.");
        FallenHouses x = new FallenHouses();
        x.sheet(1, 2, 3);
        x.put(1, 2, 77);
        for (int s : Check.outside(0, 3)) Check.refused(x, Check.BAD, "sheet(" + s + ", 0, 1)", y -> y.sheet(s, 0, 1));
        for (int sort : Check.outside(-1, 4)) {
            Check.refused(x, Check.BAD, "sheet(1, " + sort + ", 1)", y -> y.sheet(1, sort, 1));
            Check.refused(x, Check.BAD, "sheet(1, " + sort + ", -1)", y -> y.sheet(1, sort, -1));
        }
        Check.refused(x, Check.BAD, "sheet(4, -1, 0)", y -> y.sheet(4, -1, 0));
        Check.refused(x, Check.BAD, "sheet(4, 0, -1)", y -> y.sheet(4, 0, -1));
        for (int n : new int[] {41, 42, Integer.MAX_VALUE}) Check.refused(x, Check.BAD, "sheet(1, 0, " + n + ")", y -> y.sheet(1, 0, n));
        for (int n : new int[] {-1, -2, Integer.MIN_VALUE}) Check.refused(x, -14, "sheet(1, 0, " + n + ")", y -> y.sheet(1, 0, n));
        Check.due("item(1, 2, 2)", x.item(1, 2, 2), 77);
    }

    private static void put() {
        Check.sentence(50, "Item i becomes v, narrowed to its sort (booleans: whether it isn't 0): 1.");
        FallenHouses x = new FallenHouses();
        int[][] narrow = {{0, 0, 0, 0, 0, 0}, {1, 1, 1, 1, 1, 1}, {-1, -1, -1, -1, -1, 1}, {127, 127, 127, 127, 127, 1},
            {128, -128, 128, 128, 128, 1}, {255, -1, 255, 255, 255, 1}, {256, 0, 256, 256, 256, 1}, {-128, -128, -128, -128, -128, 1},
            {-129, 127, -129, -129, -129, 1}, {32767, -1, 32767, 32767, 32767, 1}, {32768, 0, -32768, 32768, 32768, 1},
            {65536, 0, 0, 65536, 65536, 1}, {-32769, -1, 32767, -32769, -32769, 1},
            {Integer.MAX_VALUE, -1, -1, Integer.MAX_VALUE, Integer.MAX_VALUE, 1},
            {Integer.MIN_VALUE, 0, 0, Integer.MIN_VALUE, Integer.MIN_VALUE, 1}};
        for (int sort = 0; sort < 5; sort++) {
            x.sheet(2, sort, 3);
            for (int[] n : narrow) {
                Check.due("put(2, 1, " + n[0] + ")", x.put(2, 1, n[0]), 1);
                Check.due(n[0] + " in sort " + sort, x.item(2, sort, 1), n[1 + sort]);
                Check.due("the item ahead", x.item(2, sort, 0), 0);
                Check.due("the item behind", x.item(2, sort, 2), 0);
            }
        }
    }

    private static void putRefused() {
        Check.sentence(50, "BAD: no such SHEET; -11; -12.");
        FallenHouses x = new FallenHouses();
        x.sheet(1, 2, 3);
        x.sheet(2, 0, 0);
        for (int s : Check.outside(0, 3)) Check.refused(x, Check.BAD, "put(" + s + ", 0, 1)", y -> y.put(s, 0, 1));
        for (int i : new int[] {0, -1, 40, Integer.MIN_VALUE, Integer.MAX_VALUE}) {
            Check.refused(x, -11, "put(0, " + i + ", 1), missing", y -> y.put(0, i, 1));
            Check.refused(x, -12, "put(2, " + i + ", 1), of none", y -> y.put(2, i, 1));
        }
        for (int i : Check.outside(0, 2)) Check.refused(x, -12, "put(1, " + i + ", 1)", y -> y.put(1, i, 1));
        Check.due("put(1, 2, 1)", x.put(1, 2, 1), 1);
        Check.due("put(1, 0, 1)", x.put(1, 0, 1), 1);
    }

    private static void item() {
        Check.sentence(51, "Item i, taken for a sort (0 to 4; of longs the lowest 32 bits, of booleans 1, 0).");
        FallenHouses x = new FallenHouses();
        x.sheet(0, 3, 40);
        x.put(0, 39, Integer.MIN_VALUE);
        x.put(0, 0, -1);
        Check.due("item(0, 3, 39)", x.item(0, 3, 39), Integer.MIN_VALUE);
        Check.due("item(0, 3, 0)", x.item(0, 3, 0), -1);
        x.sheet(1, 4, 2);
        x.put(1, 1, -5);
        Check.due("item(1, 4, 1)", x.item(1, 4, 1), 1);
        Check.due("item(1, 4, 0)", x.item(1, 4, 0), 0);
        Check.sentence(51, "(An item may be as low as these, too.)");
        for (int sort = 0; sort < 4; sort++) {
            x.sheet(2, sort, 1);
            for (int v = -15; v < 0; v++) {
                x.put(2, 0, v);
                Check.due("item of " + v, x.item(2, sort, 0), v);
            }
        }
    }

    private static void itemRefused() {
        Check.sentence(51, "BAD: no such SHEET, sort; -13; -11; -12.");
        FallenHouses x = new FallenHouses();
        for (int s : Check.outside(0, 3)) Check.refused(x, Check.BAD, "item(" + s + ", 0, 0)", y -> y.item(s, 0, 0));
        for (int sort : Check.outside(0, 4)) Check.refused(x, Check.BAD, "item(0, " + sort + ", 0)", y -> y.item(0, sort, 0));
        for (int is = 0; is < 5; is++) {
            x.sheet(1, is, 2);
            for (int as = 0; as < 5; as++) {
                int sort = as;
                for (int i : new int[] {0, 1}) {
                    if (as != is) Check.refused(x, -13, "item of sort " + is + " taken for " + as, y -> y.item(1, sort, i));
                    else Check.due("item of sort " + is, x.item(1, as, i), 0);
                }
                // of -13 and -12 the one that the promise names first
                for (int i : Check.outside(0, 1)) {
                    Check.refused(x, as != is ? -13 : -12, "item " + i + " of sort " + is + " taken for " + as, y -> y.item(1, sort, i));
                    Check.refused(x, -11, "item " + i + ", missing, taken for " + as, y -> y.item(0, sort, i));
                }
            }
        }
        Check.sentence(51, "and what the host refuses: -11 nothing where something is asked, -12 a place outside, -13 a thing of another kind, "
            + "-14 a size below 0, -15 parted by 0.");
        Check.refused(x, -11, "item(0, 0, 0)", y -> y.item(0, 0, 0));
        Check.refused(x, -12, "item(1, 4, 2)", y -> y.item(1, 4, 2));
        Check.refused(x, -13, "item(1, 0, 0)", y -> y.item(1, 0, 0));
        Check.refused(x, -14, "sheet(1, 0, -1)", y -> y.sheet(1, 0, -1));
        x.person(0);
        x.house(0, 0, 0, 9);
        x.right(0, 0, 0, 10, 0, 0, 0, -1);
        x.shelf(0, 0, 0);
        Check.due("deal(0, 3, 1)", x.deal(0, 3, 1), -15);
    }

    private static void comes() {
        Check.sentence(52, "A THING comes from a SHEET taken for shorts: items i, i + 1, i + 2 are house, kind, worth of thing(): what that "
            + "answers.");
        FallenHouses x = new FallenHouses();
        for (int i = 0; i < 3; i++) x.house(0, 0, 0, 9);
        x.sheet(3, 1, 40);
        int[] row = {2, 3, 99, 1, 0, 7};
        for (int i = 0; i < row.length; i++) x.put(3, 34 + i, row[i]);
        Check.due("comes(3, 34)", x.comes(3, 34), 0);
        Check.due("comes(3, 37), the last place", x.comes(3, 37), 1);
        int[][] of = {{2, 3, 99, 0, 0}, {1, 0, 7, 0, 0}};
        for (int t = 0; t < 2; t++) {
            for (int what = 0; what < 5; what++) Check.due("thingOf(" + t + ", " + what + ")", x.thingOf(t, what), of[t][what]);
        }
        Check.due("item(3, 1, 34), it stays", x.item(3, 1, 34), 2);
        Check.refused(x, Check.BAD, "comes(3, 0), worth 0", y -> y.comes(3, 0));
        Check.refused(x, Check.BAD, "comes(3, 35), house 3", y -> y.comes(3, 35));
        x.put(3, 34, -1);
        Check.refused(x, Check.BAD, "comes(3, 34), house -1", y -> y.comes(3, 34));
        x.fall(1);
        Check.refused(x, Check.STATE, "comes(3, 37), fallen", y -> y.comes(3, 37));
        x.put(3, 34, 2);
        for (int i = 2; i < 24; i++) Check.due("comes(3, 34)", x.comes(3, 34), i);
        Check.refused(x, Check.FULL, "comes(3, 34), full", y -> y.comes(3, 34));
    }

    private static void comesRefused() {
        Check.sentence(52, "BAD: no such SHEET; -13; -11; -12.");
        FallenHouses x = new FallenHouses();
        x.house(0, 0, 0, 9);
        for (int s : Check.outside(0, 3)) Check.refused(x, Check.BAD, "comes(" + s + ", 0)", y -> y.comes(s, 0));
        for (int i : new int[] {0, -1, 40}) Check.refused(x, -11, "comes(0, " + i + "), missing", y -> y.comes(0, i));
        for (int sort : new int[] {0, 2, 3, 4}) {
            x.sheet(1, sort, 4);
            for (int i : new int[] {0, 1, 2, -1, 9}) Check.refused(x, -13, "comes(1, " + i + ") from sort " + sort, y -> y.comes(1, i));
        }
        for (int n = 0; n < 3; n++) {
            x.sheet(1, 1, n);
            Check.refused(x, -12, "comes(1, 0) from " + n, y -> y.comes(1, 0));
        }
        x.sheet(1, 1, 4);
        for (int i = 0; i < 4; i++) x.put(1, i, i == 3 ? 1 : 0);
        for (int i : new int[] {-3, -2, -1, 2, 3, 4, Integer.MIN_VALUE, Integer.MAX_VALUE, Integer.MAX_VALUE - 1, Integer.MAX_VALUE - 2}) {
            Check.refused(x, -12, "comes(1, " + i + ") from 4", y -> y.comes(1, i));
        }
        Check.due("comes(1, 1)", x.comes(1, 1), 0);
    }

    /** RIGHTS of KINDS 0 to 7 on HOUSE 2, of AMOUNTS 15, 20, 30 .. 80. */
    private static FallenHouses rights() {
        FallenHouses x = new FallenHouses();
        x.person(0);
        for (int i = 0; i < 3; i++) x.house(0, 0, 0, 9);
        x.thing(2, 0, 1);
        for (int kind = 0; kind < 8; kind++) x.right(kind, 2, 0, kind == 0 ? 15 : 10 * (kind + 1), 0, 0, 0, -1);
        return x;
    }

    private static void shelf() {
        Check.sentence(53, "A SHELF holds RIGHT n (what 0), the row of SHEET n (1; nothing, if missing), nothing (2): 1.");
        FallenHouses x = rights();
        x.sheet(0, 0, 5);
        x.sheet(3, 4, 0);
        for (int s = 0; s < 4; s++) {
            Check.due("shelf(" + s + ", 0, 7)", x.shelf(s, 0, 7), 1);
            Check.due("taken", x.taken(s, 7), 7);
            Check.due("shelf(" + s + ", 1, 0)", x.shelf(s, 1, 0), 1);
            Check.due("taken", x.taken(s, 10), 5);
            Check.due("shelf(" + s + ", 1, 3), of no items", x.shelf(s, 1, 3), 1);
            Check.due("taken", x.taken(s, 14), 0);
            Check.due("shelf(" + s + ", 1, 1), missing", x.shelf(s, 1, 1), 1);
            Check.due("taken", x.taken(s, 14), -11);
            x.shelf(s, 0, 0);
            for (int n : new int[] {0, -1, 99, Integer.MIN_VALUE, Integer.MAX_VALUE}) Check.due("shelf(" + s + ", 2, " + n + ")", x.shelf(s, 2, n), 1);
            Check.due("taken", x.taken(s, 0), -11);
        }
        Check.sentence(53, "SHELVES 0 to 3 hold a RIGHT (nothing, if it is not there any more), a SHEET's row, or nothing (at first).");
        FallenHouses z = rights();
        for (int s = 0; s < 4; s++) Check.due("taken(" + s + ", 0), nothing at first", z.taken(s, 0), -11);
        z.keep();
        z.right(1, 2, 0, 5, 0, 0, 0, -1);
        z.shelf(0, 0, 8);
        z.shelf(1, 0, 7);
        Check.due("taken(0, 1)", z.taken(0, 1), 8);
        z.again();
        Check.due("taken(0, 1), not there any more", z.taken(0, 1), -11);
        Check.due("deal(0, 0, 1), not there any more", z.deal(0, 0, 1), 0);
        Check.due("taken(1, 7)", z.taken(1, 7), 7);
    }

    private static void shelfRefused() {
        Check.sentence(53, "nothing (2): 1. BAD.");
        FallenHouses x = rights();
        x.shelf(1, 0, 3);
        for (int s : Check.outside(0, 3)) {
            for (int what = 0; what < 3; what++) {
                int asked = what;
                Check.refused(x, Check.BAD, "shelf(" + s + ", " + what + ", 0)", y -> y.shelf(s, asked, 0));
            }
        }
        for (int what : Check.outside(0, 2)) Check.refused(x, Check.BAD, "shelf(1, " + what + ", 0)", y -> y.shelf(1, what, 0));
        for (int n : Check.outside(0, 7)) Check.refused(x, Check.BAD, "shelf(1, 0, " + n + ")", y -> y.shelf(1, 0, n));
        for (int n : Check.outside(0, 3)) Check.refused(x, Check.BAD, "shelf(1, 1, " + n + ")", y -> y.shelf(1, 1, n));
        Check.due("taken(1, 3)", x.taken(1, 3), 3);
    }

    private static void taken() {
        Check.sentence(54, "What a SHELF holds taken for a RIGHT of KIND as (0 to 7, or one under it): its number;");
        FallenHouses x = rights();
        x.right(1, 0, 0, 1, 0, 0, 0, -1);
        Check.due("a right for a right", takenAs(x, 0, 0), 0);
        Check.due("a claim for a claim", takenAs(x, 7, 7), 7);
        Check.due("the second rent for a right", takenAs(x, 8, 0), 8);
        Check.sentence(54, "(lease is under rent, pledge under debt; rent, alms, pension, debt, claim are under right.)");
        int[] under = {-1, 0, 1, 0, 0, 0, 5, 0};
        for (int kind = 0; kind < 8; kind++) {
            x.shelf(0, 0, kind);
            for (int as = 0; as < 8; as++) {
                boolean fits = as == kind || as == 0 || as == under[kind];
                Check.due("kind " + kind + " taken for " + as, x.taken(0, as), fits ? kind : -13);
            }
        }
        x.shelf(0, 0, 8);
        Check.due("its number is not its kind", x.taken(0, 1), 8);
        x.fall(0);
        Check.due("one that is gone is still there", x.taken(0, 1), 8);
        Check.due("a lease for a rent", takenAs(x, 2, 1), 2);
        Check.due("a rent for a lease", takenAs(x, 1, 2), -13);
        Check.due("a debt for a pledge", takenAs(x, 5, 6), -13);
    }

    private static int takenAs(FallenHouses x, int right, int as) {
        x.shelf(2, 0, right);
        return x.taken(2, as);
    }

    private static void takenRows() {
        Check.sentence(54, "for a row of sort as - 10 (as 10 to 14): how many items.");
        FallenHouses x = rights();
        for (int sort = 0; sort < 5; sort++) {
            for (int n : new int[] {0, 1, 40}) {
                x.sheet(0, sort, n);
                x.shelf(0, 1, 0);
                for (int as = 10; as < 15; as++) {
                    Check.due("a row of sort " + sort + " taken for " + as, x.taken(0, as), as - 10 == sort ? n : -13);
                }
                for (int as = 0; as < 8; as++) Check.due("a row taken for a right", x.taken(0, as), -13);
            }
        }
        // the shelf holds the row itself, whatever the sheet becomes
        x.sheet(0, 2, 7);
        x.shelf(0, 1, 0);
        x.sheet(0, 3, 9);
        Check.due("taken(0, 12)", x.taken(0, 12), 7);
        x.sheet(0, -1, 0);
        Check.due("taken(0, 12)", x.taken(0, 12), 7);
        Check.due("taken(0, 13)", x.taken(0, 13), -13);
    }

    private static void takenRefused() {
        Check.sentence(54, "BAD: no such SHELF, as; -13; -11.");
        FallenHouses x = rights();
        x.shelf(1, 0, 4);
        for (int s : Check.outside(0, 3)) Check.refused(x, Check.BAD, "taken(" + s + ", 0)", y -> y.taken(s, 0));
        for (int as : new int[] {-1, 8, 9, 15, Integer.MIN_VALUE, Integer.MAX_VALUE}) {
            Check.refused(x, Check.BAD, "taken(0, " + as + "), nothing", y -> y.taken(0, as));
            Check.refused(x, Check.BAD, "taken(1, " + as + ")", y -> y.taken(1, as));
        }
        for (int as = 0; as < 15; as++) {
            if (as == 8 || as == 9) continue;
            int asked = as;
            Check.refused(x, -11, "taken(0, " + as + "), nothing", y -> y.taken(0, asked));
            if (as != 0 && as != 4) Check.refused(x, -13, "taken(1, " + as + "), a pension", y -> y.taken(1, asked));
        }
    }

    /** A DEAL with a RIGHT, what is due, and the bodies that run, as they begin. */
    private static void deal(FallenHouses x, int right, int deal, int number, int due, int... bodies) {
        x.shelf(3, 0, right);
        String call = "deal " + deal + " with right " + right + " and " + number;
        Check.due(call, x.deal(3, deal, number), due);
        Check.due(call + ", bodies", x.many(12), bodies.length);
        for (int i = 0; i < bodies.length; i++) Check.due(call + ", body " + i, x.trace(i), bodies[i]);
    }

    private static void deal() {
        Check.sentence(55, "A DEAL (0 to 3) with what a SHELF holds, taken for a RIGHT, with x.");
        FallenHouses x = rights();
        for (int s = 0; s < 4; s++) {
            x.shelf(s, 0, s);
            Check.due("deal(" + s + ", 0, 0)", x.deal(s, 0, 0), s == 0 ? 15 : s == 1 ? 20 : s == 2 ? 60 : 40);
        }
        Check.sentence(55, "DEALS with a RIGHT by its KIND, with a number x (ints that wrap): 0 bears, 1 follows, 2 ranks, 3 parts. "
            + "BODIES, each with its number; a: AMOUNT, h: HOUSE, n: its number.");
        // one on house 0, with another number
        x.right(1, 0, 0, 7, 0, 0, 0, -1);
        deal(x, 8, 0, 1, 8, 10);
        deal(x, 8, 1, 1, 24 ^ 8, 20, 11, 10);
        deal(x, 8, 2, 1, 24 ^ 8, 12, 20, 11, 10);
        deal(x, 8, 3, 10, -3, 13);
    }

    private static void bodiesOfRightAndRents() {
        Check.sentence(55, "right: 10 bears: x + a. 11 follows: bears(x) * 3. 12 ranks: follows(x) - h. 13 parts: x by (a - 10), the rest away "
            + "(-15 if a is 10; that is all that deal() answers then).");
        FallenHouses x = rights();
        deal(x, 0, 0, 5, 20, 10);
        deal(x, 0, 0, -20, -5, 10);
        deal(x, 0, 1, 5, 60, 11, 10);
        deal(x, 0, 2, 5, 58, 12, 11, 10);
        deal(x, 0, 3, 14, 2, 13);
        deal(x, 0, 3, 15, 3, 13);
        deal(x, 0, 3, 4, 0, 13);
        deal(x, 0, 3, -14, -2, 13);
        deal(x, 0, 3, -4, 0, 13);
        Check.sentence(55, "rent: 20 follows: super.follows(x) ^ n. lease: 30 bears: super.bears(x) * 2. 31 parts: super.parts(x + 1) + h. "
            + "alms: 40 ranks: super.ranks(x) + bears(1). pension: 50 bears: super.bears(x) - 7.");
        deal(x, 1, 0, 5, 25, 10);
        deal(x, 1, 1, 5, 75 ^ 1, 20, 11, 10);
        deal(x, 1, 2, 5, (75 ^ 1) - 2, 12, 20, 11, 10);
        deal(x, 1, 3, 35, 3, 13);
        deal(x, 2, 0, 5, 70, 30, 10);
        deal(x, 2, 1, 5, 210 ^ 2, 20, 11, 30, 10);
        deal(x, 2, 2, 5, (210 ^ 2) - 2, 12, 20, 11, 30, 10);
        deal(x, 2, 3, 58, 2 + 2, 31, 13);
        deal(x, 2, 3, 59, 3 + 2, 31, 13);
        deal(x, 2, 3, -1, 2, 31, 13);
    }

    private static void bodiesOfOthers() {
        Check.sentence(55, "alms: 40 ranks: super.ranks(x) + bears(1). pension: 50 bears: super.bears(x) - 7.");
        FallenHouses x = rights();
        deal(x, 3, 0, 5, 45, 10);
        deal(x, 3, 1, 5, 135, 11, 10);
        deal(x, 3, 2, 5, 133 + 41, 40, 12, 11, 10, 10);
        deal(x, 3, 3, 61, 2, 13);
        deal(x, 4, 0, 5, 48, 50, 10);
        deal(x, 4, 1, 5, 144, 11, 50, 10);
        deal(x, 4, 2, 5, 142, 12, 11, 50, 10);
        deal(x, 4, 3, 79, 1, 13);
        Check.sentence(55, "claim: 80 follows: 0 - super.follows(x).");
        deal(x, 7, 0, 5, 85, 10);
        deal(x, 7, 1, 5, -255, 80, 11, 10);
        deal(x, 7, 2, 5, -257, 12, 80, 11, 10);
        deal(x, 7, 3, 140, 2, 13);
    }

    private static void bodiesOfDebts() {
        Check.sentence(55, "debt: 60 ranks: super.ranks(x) - follows(2). 61 parts: 0 - super.parts(x). pledge: 70 bears: super.bears(x) + n. "
            + "71 ranks: super.ranks(x) ^ bears(0).");
        FallenHouses x = rights();
        deal(x, 5, 0, 5, 65, 10);
        deal(x, 5, 1, 5, 195, 11, 10);
        deal(x, 5, 2, 5, 193 - 186, 60, 12, 11, 10, 11, 10);
        deal(x, 5, 3, 149, -2, 61, 13);
        deal(x, 5, 3, -150, 3, 61, 13);
        deal(x, 6, 0, 5, 81, 70, 10);
        deal(x, 6, 1, 5, 243, 11, 70, 10);
        deal(x, 6, 2, 5, (241 - 234) ^ 76, 71, 60, 12, 11, 70, 10, 11, 70, 10, 70, 10);
        deal(x, 6, 3, 179, -2, 61, 13);
    }

    private static void wraps() {
        Check.sentence(55, "with a number x (ints that wrap)");
        FallenHouses x = rights();
        int most = Integer.MAX_VALUE, least = Integer.MIN_VALUE;
        deal(x, 0, 0, most, least + 14, 10);
        deal(x, 0, 0, least, least + 15, 10);
        deal(x, 0, 1, most, 3 * (least + 14), 11, 10);
        deal(x, 0, 2, least - 15, least - 2, 12, 11, 10);
        deal(x, 2, 0, most - 29, 0, 30, 10);
        deal(x, 2, 3, most, least / 20 + 2, 31, 13);
        deal(x, 4, 0, most - 49, most - 6, 50, 10);
        deal(x, 7, 1, least - 80, least, 80, 11, 10);
        x.right(5, 2, 0, 9, 0, 0, 0, -1);
        // by -1: the least int is its own opposite, twice
        deal(x, 8, 3, least, least, 61, 13);
        deal(x, 8, 3, most, most, 61, 13);
        x.right(0, 2, 0, 9, 0, 0, 0, -1);
        deal(x, 9, 3, least, least, 13);
        deal(x, 9, 3, least + 1, most, 13);
    }

    private static void partedByZero() {
        Check.sentence(55, "(-15 if a is 10; that is all that deal() answers then)");
        FallenHouses x = rights();
        x.thing(2, 0, 1);
        int[][] bodies = {{13}, {13}, {31, 13}, {13}, {13}, {61, 13}, {61, 13}, {13}};
        for (int kind = 0; kind < 8; kind++) {
            x.right(kind, 2, 0, 10, 0, 0, kind == 6 ? 1 : 0, -1);
            for (int number : new int[] {0, 7, -1, Integer.MAX_VALUE, Integer.MIN_VALUE}) deal(x, 8 + kind, 3, number, -15, bodies[kind]);
        }
        deal(x, 8, 0, 7, 17, 10);
        deal(x, 8, 2, 7, 49, 12, 11, 10);
        x.right(0, 2, 0, 11, 0, 0, 0, -1);
        deal(x, 16, 3, 7, 7, 13);
        x.right(0, 2, 0, 9, 0, 0, 0, -1);
        deal(x, 17, 3, 7, -7, 13);
    }

    private static void dealRefused() {
        Check.sentence(55, "0, and no TRACE then: no such SHELF, deal, nothing, another thing.");
        FallenHouses x = rights();
        x.sheet(0, 1, 5);
        x.shelf(0, 0, 6);
        x.shelf(2, 1, 0);
        int[][] refused = {{-1, 0}, {4, 0}, {Integer.MIN_VALUE, 0}, {Integer.MAX_VALUE, 0}, {0, -1}, {0, 4}, {0, Integer.MIN_VALUE},
            {0, Integer.MAX_VALUE}, {1, 0}, {1, 3}, {2, 0}, {2, 3}};
        for (int[] r : refused) {
            Check.due("deal(0, 2, 5)", x.deal(0, 2, 5), 7 ^ 76);
            Check.due("many(12)", x.many(12), 11);
            int[] kept = Worlds.kept(x);
            Check.due("deal(" + r[0] + ", " + r[1] + ", 5)", x.deal(r[0], r[1], 5), 0);
            Check.due("many(12)", x.many(12), 0);
            Check.due("trace(0)", x.trace(0), Check.NONE);
            int[] then = Worlds.kept(x);
            for (int i = 0; i < kept.length; i++) Check.due("kept " + i, then[i], kept[i]);
        }
        x.fall(2);
        Check.due("a right that is gone is dealt with", x.deal(0, 0, 5), 81);
    }

    private static void trace() {
        Check.sentence(56, "THE TRACE's i-th body. NONE.");
        FallenHouses x = rights();
        for (int i : new int[] {-1, 0, 30}) Check.refused(x, Check.NONE, "trace(" + i + "), no deal yet", y -> y.trace(i));
        x.shelf(0, 0, 6);
        x.deal(0, 2, 5);
        int[] bodies = {71, 60, 12, 11, 70, 10, 11, 70, 10, 70, 10};
        for (int i = 0; i < bodies.length; i++) Check.due("trace(" + i + ")", x.trace(i), bodies[i]);
        for (int i : Check.outside(0, 10)) Check.refused(x, Check.NONE, "trace(" + i + ")", y -> y.trace(i));
        Check.refused(x, Check.NONE, "trace(29)", y -> y.trace(29));
        // the longest deal has eleven bodies: the bound of 30 is never reached
        Check.sentence(56, "THE TRACE: numbers of the bodies that ran in the latest deal(), as they began (left first); the first 30 are kept.");
        x.deal(0, 0, 5);
        Check.due("many(12), the latest deal alone", x.many(12), 2);
        Check.due("trace(0)", x.trace(0), 70);
        Check.due("trace(2)", x.trace(2), Check.NONE);
        for (int i = 0; i < 40; i++) x.deal(0, 2, i);
        Check.due("many(12), behind many deals", x.many(12), 11);
    }

    private static void many() {
        Check.sentence(57, "How many: what = 0 TODAY, 1 PERSONS, 2 HOUSES, 3 THINGS, 4 RIGHTS, 5 VERSIONS, 6 STAYS, 7 LOTS, 8 BUYERS, 9 DEEDS, "
            + "10 ROWS, 11 bytes of THE TAPE, 12 bodies of THE TRACE, 13 HOUSES that FELL, 14 RIGHTS that are GONE TODAY.");
        FallenHouses x = rights();
        x.days(300);
        x.person(0);
        for (int i = 0; i < 3; i++) x.thing(0, 0, 1);
        x.right(7, 0, 0, 1, 0, 0, 0, -1);
        x.right(0, 1, 0, 1, 0, 0, 0, 0);
        for (int i = 0; i < 11; i++) Check.read(x, 0, "");
        for (int i = 0; i < 13; i++) x.stay(0, 0, 0);
        for (int i = 0; i < 6; i++) x.lot(1);
        for (int i = 0; i < 3; i++) x.buyer(1);
        for (int i = 0; i < 14; i++) x.deed(0, 0, 1, 0, 0);
        x.ride(0, 3, 0);
        Check.feed(x, "abcdefghijklmnopqrst");
        x.shelf(0, 0, 4);
        x.deal(0, 2, 1);
        x.prove(8);
        int[] due = {300, 2, 3, 4, 10, 11, 13, 6, 3, 14, 2, 20, 4, 0, 2};
        for (int what = 0; what < due.length; what++) Check.due("many(" + what + ")", x.many(what), due[what]);
        x.fall(0);
        Check.due("many(13)", x.many(13), 1);
        Check.due("many(14)", x.many(14), 3);
        x.fall(2);
        Check.due("many(13)", x.many(13), 2);
        Check.due("many(14)", x.many(14), 10);
        Check.sentence(57, "BAD: another what.");
        for (int what : Check.outside(0, 14)) Check.refused(x, Check.BAD, "many(" + what + ")", y -> y.many(what));
    }
}
