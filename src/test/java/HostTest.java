/** Promises 49 to 57: sheet, put, item, comes, shelf, taken, deal, trace, many. */
final class HostTest {
    public static void main(String[] args) {
        sheet();
        put();
        item();
        comes();
        shelfAndTaken();
        rightsAndAgain();
        deals();
        dealsRefused();
        many();
        Check.finish();
    }

    private static void sheet() {
        FallenHouses x = new FallenHouses();
        Check.due("sheet(4, 0, 1)", x.sheet(4, 0, 1), Check.BAD);
        Check.due("sheet(-1, 0, 1)", x.sheet(-1, 0, 1), Check.BAD);
        Check.due("sheet(0, 5, 1)", x.sheet(0, 5, 1), Check.BAD);
        Check.due("sheet(0, -2, 1)", x.sheet(0, -2, 1), Check.BAD);
        Check.due("sheet(0, 0, 41)", x.sheet(0, 0, 41), Check.BAD);
        Check.due("sheet(0, 0, MAX)", x.sheet(0, 0, Integer.MAX_VALUE), Check.BAD);
        Check.due("sheet(0, 0, -1)", x.sheet(0, 0, -1), -14);
        Check.due("sheet(0, 0, MIN)", x.sheet(0, 0, Integer.MIN_VALUE), -14);
        Check.due("sheet(0, 5, -1), the first named", x.sheet(0, 5, -1), Check.BAD);
        Check.due("sheet(0, -1, 41)", x.sheet(0, -1, 41), 1);
        Check.due("sheet(0, -1, -1)", x.sheet(0, -1, -1), 1);
        Check.due("item(0, 0, 0), missing", x.item(0, 0, 0), -11);
        Check.due("sheet(3, 4, 40)", x.sheet(3, 4, 40), 1);
        Check.due("item(3, 4, 39)", x.item(3, 4, 39), 0);
        Check.due("put(3, 39, 5)", x.put(3, 39, 5), 1);
        Check.due("put(3, 0, 5)", x.put(3, 0, 5), 1);
        Check.due("sheet(3, 4, 40)", x.sheet(3, 4, 40), 1);
        Check.due("item(3, 4, 39), anew", x.item(3, 4, 39), 0);
        Check.due("item(3, 4, 0), anew", x.item(3, 4, 0), 0);
        Check.due("sheet(3, 0, 0)", x.sheet(3, 0, 0), 1);
        Check.due("item(3, 0, 0), empty", x.item(3, 0, 0), -12);
        Check.due("sheet(3, -1, 0)", x.sheet(3, -1, 0), 1);
        Check.due("put(3, 0, 0), missing again", x.put(3, 0, 0), -11);
    }

    private static void put() {
        FallenHouses x = new FallenHouses();
        Check.due("put(4, 0, 0)", x.put(4, 0, 0), Check.BAD);
        Check.due("put(-1, 0, 0)", x.put(-1, 0, 0), Check.BAD);
        Check.due("put(0, 0, 0)", x.put(0, 0, 0), -11);
        Check.due("put(0, -1, 0)", x.put(0, -1, 0), -11);
        int[] values = {0, 1, -1, 127, 128, 255, 256, 32768, 65536, Integer.MAX_VALUE, Integer.MIN_VALUE};
        for (int sort = 0; sort < 5; sort++) {
            x.sheet(0, sort, 3);
            Check.due("put(0, 3, 0)", x.put(0, 3, 0), -12);
            Check.due("put(0, -1, 0)", x.put(0, -1, 0), -12);
            for (int v : values) {
                Check.due("put(0, 2, " + v + ")", x.put(0, 2, v), 1);
                int due = sort == 0 ? (byte) v : sort == 1 ? (short) v : sort == 4 ? (v != 0 ? 1 : 0) : v;
                Check.due("item(0, " + sort + ", 2) of " + v, x.item(0, sort, 2), due);
            }
            Check.due("item(0, .., 1), beside it", x.item(0, sort, 1), 0);
        }
    }

    private static void item() {
        FallenHouses x = new FallenHouses();
        x.sheet(1, 2, 2);
        x.put(1, 1, -13);
        Check.due("item(4, 0, 0)", x.item(4, 0, 0), Check.BAD);
        Check.due("item(-1, 0, 0)", x.item(-1, 0, 0), Check.BAD);
        Check.due("item(1, 5, 0)", x.item(1, 5, 0), Check.BAD);
        Check.due("item(1, -1, 0)", x.item(1, -1, 0), Check.BAD);
        for (int sort = 0; sort < 5; sort++) {
            if (sort == 2) continue;
            Check.due("item(1, " + sort + ", 0)", x.item(1, sort, 0), -13);
            Check.due("item(1, " + sort + ", 9), the first named", x.item(1, sort, 9), -13);
            Check.due("item(0, " + sort + ", 9), missing", x.item(0, sort, 9), -11);
        }
        Check.due("item(1, 2, 2)", x.item(1, 2, 2), -12);
        Check.due("item(1, 2, -1)", x.item(1, 2, -1), -12);
        Check.due("item(1, 2, 1)", x.item(1, 2, 1), -13);
    }

    private static void comes() {
        FallenHouses x = new FallenHouses();
        x.house(0, 0, 0, 1);
        x.house(0, 0, 0, 1);
        Check.due("comes(4, 0)", x.comes(4, 0), Check.BAD);
        Check.due("comes(-1, 0)", x.comes(-1, 0), Check.BAD);
        Check.due("comes(0, 0)", x.comes(0, 0), -11);
        x.sheet(0, 0, 5);
        Check.due("comes(0, 9), bytes", x.comes(0, 9), -13);
        x.sheet(0, 1, 5);
        int[] row = {9, 1, 3, 77, 4};
        for (int i = 0; i < 5; i++) x.put(0, i, row[i]);
        Check.due("comes(0, 3)", x.comes(0, 3), -12);
        Check.due("comes(0, 5)", x.comes(0, 5), -12);
        Check.due("comes(0, -1)", x.comes(0, -1), -12);
        Check.due("comes(0, -2)", x.comes(0, -2), -12);
        Check.due("comes(0, MAX)", x.comes(0, Integer.MAX_VALUE), -12);
        Check.due("comes(0, MIN)", x.comes(0, Integer.MIN_VALUE), -12);
        Check.due("comes(0, 0), no such house", x.comes(0, 0), Check.BAD);
        Check.due("comes(0, 2), no such kind", x.comes(0, 2), Check.BAD);
        Check.due("comes(0, 1)", x.comes(0, 1), 0);
        int[] of = {1, 3, 77, 0, 0};
        for (int what = 0; what < 5; what++) Check.due("thingOf(0, " + what + ")", x.thingOf(0, what), of[what]);
        x.fall(1);
        Check.due("comes(0, 1), fallen", x.comes(0, 1), Check.STATE);
    }

    private static FallenHouses rights() {
        FallenHouses x = new FallenHouses();
        x.person(0);
        x.house(0, 0, 0, 1);
        x.house(0, 0, 0, 1);
        x.house(0, 0, 0, 1);
        x.thing(2, 0, 1);
        int[] amounts = {15, 20, 30, 40, 50, 60, 70, 80};
        for (int kind = 0; kind < 8; kind++) x.right(kind, 2, 0, amounts[kind], 0, 0, 0, -1);
        return x;
    }

    private static void shelfAndTaken() {
        FallenHouses x = rights();
        Check.due("shelf(4, 2, 0)", x.shelf(4, 2, 0), Check.BAD);
        Check.due("shelf(-1, 2, 0)", x.shelf(-1, 2, 0), Check.BAD);
        Check.due("shelf(0, 3, 0)", x.shelf(0, 3, 0), Check.BAD);
        Check.due("shelf(0, -1, 0)", x.shelf(0, -1, 0), Check.BAD);
        Check.due("shelf(0, 0, 8)", x.shelf(0, 0, 8), Check.BAD);
        Check.due("shelf(0, 0, -1)", x.shelf(0, 0, -1), Check.BAD);
        Check.due("shelf(0, 1, 4)", x.shelf(0, 1, 4), Check.BAD);
        Check.due("shelf(0, 1, -1)", x.shelf(0, 1, -1), Check.BAD);
        Check.due("taken(4, 0)", x.taken(4, 0), Check.BAD);
        Check.due("taken(-1, 0)", x.taken(-1, 0), Check.BAD);
        for (int as : new int[] {-1, 8, 9, 15, Integer.MAX_VALUE}) Check.due("taken(0, " + as + ")", x.taken(0, as), Check.BAD);
        for (int as = 0; as < 15; as++) {
            if (as != 8 && as != 9) Check.due("taken(0, " + as + "), nothing", x.taken(0, as), -11);
        }
        int[] under = {-1, 0, 1, 0, 0, 0, 5, 0};
        for (int kind = 0; kind < 8; kind++) {
            Check.due("shelf(1, 0, " + kind + ")", x.shelf(1, 0, kind), 1);
            for (int as = 0; as < 8; as++) {
                boolean is = as == kind || as == 0 || as == under[kind];
                Check.due("kind " + kind + " taken as " + as, x.taken(1, as), is ? kind : -13);
            }
            for (int as = 10; as < 15; as++) Check.due("a right taken as a row", x.taken(1, as), -13);
        }
        x.sheet(3, 4, 7);
        Check.due("shelf(1, 1, 3)", x.shelf(1, 1, 3), 1);
        Check.due("taken(1, 14)", x.taken(1, 14), 7);
        Check.due("taken(1, 13)", x.taken(1, 13), -13);
        Check.due("taken(1, 4)", x.taken(1, 4), -13);
        x.sheet(3, 2, 9);
        Check.due("taken(1, 14), the row that it was", x.taken(1, 14), 7);
        x.shelf(1, 1, 3);
        Check.due("taken(1, 12)", x.taken(1, 12), 9);
        x.shelf(1, 1, 0);
        Check.due("taken(1, 12), a missing one", x.taken(1, 12), -11);
        x.shelf(1, 0, 3);
        Check.due("shelf(1, 2, 99)", x.shelf(1, 2, 99), 1);
        Check.due("taken(1, 0)", x.taken(1, 0), -11);
    }

    private static void rightsAndAgain() {
        FallenHouses x = rights();
        x.keep();
        x.right(0, 0, 0, 1, 0, 0, 0, -1);
        x.shelf(0, 0, 8);
        x.shelf(1, 0, 7);
        Check.due("taken(0, 0)", x.taken(0, 0), 8);
        x.again();
        Check.due("taken(0, 0), not there any more", x.taken(0, 0), -11);
        Check.due("taken(1, 7)", x.taken(1, 7), 7);
        Check.due("deal(0, 0, 1)", x.deal(0, 0, 1), 0);
        Check.due("many(12)", x.many(12), 0);
    }

    /** Of RIGHTS 0 to 7, of KINDS 0 to 7, on HOUSE 2, each DEAL with its bodies, written out by hand. */
    private static void deals() {
        FallenHouses x = rights();
        deal(x, 0, 0, 5, 20, 10);
        deal(x, 0, 1, 5, 60, 11, 10);
        deal(x, 0, 2, 5, 58, 12, 11, 10);
        deal(x, 0, 3, 17, 3, 13);
        deal(x, 0, 3, -17, -3, 13);
        deal(x, 1, 0, 5, 25, 10);
        deal(x, 1, 3, 35, 3, 13);
        deal(x, 1, 1, 5, 75 ^ 1, 20, 11, 10);
        deal(x, 1, 2, 5, (75 ^ 1) - 2, 12, 20, 11, 10);
        deal(x, 2, 0, 5, 70, 30, 10);
        deal(x, 2, 1, 5, 210 ^ 2, 20, 11, 30, 10);
        deal(x, 2, 2, 5, (210 ^ 2) - 2, 12, 20, 11, 30, 10);
        deal(x, 2, 3, 59, 5, 31, 13);
        deal(x, 2, 3, 58, 4, 31, 13);
        deal(x, 3, 0, 5, 45, 10);
        deal(x, 3, 1, 5, 135, 11, 10);
        deal(x, 3, 3, 61, 2, 13);
        deal(x, 3, 2, 5, 135 - 2 + 41, 40, 12, 11, 10, 10);
        deal(x, 4, 0, 5, 48, 50, 10);
        deal(x, 4, 1, 5, 144, 11, 50, 10);
        deal(x, 4, 2, 5, 142, 12, 11, 50, 10);
        deal(x, 4, 3, 79, 1, 13);
        deal(x, 5, 0, 5, 65, 10);
        deal(x, 5, 1, 5, 195, 11, 10);
        deal(x, 5, 2, 5, 195 - 2 - 186, 60, 12, 11, 10, 11, 10);
        deal(x, 5, 3, 150, -3, 61, 13);
        deal(x, 6, 0, 5, 81, 70, 10);
        deal(x, 6, 1, 5, 243, 11, 70, 10);
        deal(x, 6, 2, 5, (243 - 2 - 234) ^ 76, 71, 60, 12, 11, 70, 10, 11, 70, 10, 70, 10);
        deal(x, 6, 3, 150, -2, 61, 13);
        deal(x, 7, 0, 5, 85, 10);
        deal(x, 7, 1, 5, -255, 80, 11, 10);
        deal(x, 7, 2, 5, -257, 12, 80, 11, 10);
        deal(x, 7, 3, 140, 2, 13);
        // ints that wrap
        deal(x, 0, 0, Integer.MAX_VALUE, Integer.MIN_VALUE + 14, 10);
        x.right(5, 0, 0, 9, 0, 0, 0, -1);
        deal(x, 8, 3, Integer.MIN_VALUE, Integer.MIN_VALUE, 61, 13);
        x.right(5, 0, 0, 10, 0, 0, 0, -1);
        deal(x, 9, 3, 7, -15, 61, 13);
        x.right(2, 1, 0, 10, 0, 0, 0, -1);
        deal(x, 10, 3, 7, -15, 31, 13);
        deal(x, 10, 0, 7, 34, 30, 10);
    }

    private static void deal(FallenHouses x, int right, int deal, int number, int due, int... bodies) {
        x.shelf(3, 0, right);
        String call = "deal " + deal + " with right " + right + " and " + number;
        Check.due(call, x.deal(3, deal, number), due);
        Check.due(call + ", bodies", x.many(12), bodies.length);
        for (int i = 0; i < bodies.length; i++) Check.due(call + ", body " + i, x.trace(i), bodies[i]);
        Check.due(call + ", behind the bodies", x.trace(bodies.length), Check.NONE);
    }

    private static void dealsRefused() {
        FallenHouses x = rights();
        Check.due("trace(0)", x.trace(0), Check.NONE);
        int[][] refused = {{4, 0}, {-1, 0}, {0, 4}, {0, -1}, {1, 0}, {2, 0}};
        x.shelf(0, 0, 0);
        x.sheet(0, 1, 1);
        x.shelf(2, 1, 0);
        for (int[] r : refused) {
            x.deal(0, 0, 1);
            Check.due("many(12)", x.many(12), 1);
            Check.due("trace(-1)", x.trace(-1), Check.NONE);
            Check.due("trace(MAX)", x.trace(Integer.MAX_VALUE), Check.NONE);
            Check.due("deal(" + r[0] + ", " + r[1] + ", 1)", x.deal(r[0], r[1], 1), 0);
            Check.due("many(12)", x.many(12), 0);
            Check.due("trace(0)", x.trace(0), Check.NONE);
        }
    }

    private static void many() {
        FallenHouses x = rights();
        x.days(3);
        x.person(0);
        x.right(7, 0, 0, 1, 0, 0, 0, -1);
        x.prove(8);
        Check.read(x, 0, "");
        Check.read(x, 0, "");
        for (int i = 0; i < 6; i++) x.stay(0, 0, 0);
        for (int i = 0; i < 5; i++) x.lot(1);
        x.buyer(1);
        x.buyer(1);
        for (int i = 0; i < 4; i++) x.deed(0, 0, 1, 0, 0);
        x.ride(0, 7, 0);
        Check.feed(x, "abcdefghijk");
        x.shelf(0, 0, 2);
        x.deal(0, 1, 1);
        x.fall(0);
        int[] due = {3, 2, 3, 1, 9, 2, 6, 5, 2, 4, 3, 11, 4, 1, 2};
        for (int what = 0; what < due.length; what++) Check.due("many(" + what + ")", x.many(what), due[what]);
        Check.due("many(15)", x.many(15), Check.BAD);
        Check.due("many(-1)", x.many(-1), Check.BAD);
    }
}
