import java.util.Arrays;

/** Promises 58 and 59: keep, again. */
final class KeptTest {
    public static void main(String[] args) {
        everythingComesBack();
        whatIsNotKept();
        latestIsKept();
        acts();
        rulesOftenReadAgain();
        newOnesBegin();
        Check.finish();
    }

    private static void everythingComesBack() {
        FallenHouses x = Worlds.full();
        Check.due("keep()", x.keep(), 1);
        int[] before = Worlds.kept(x);
        x.days(11);
        x.road(0, 1, 19);
        x.person(0);
        x.die(0, 3000);
        x.house(9, 0, 0, 1);
        x.sell(0);
        x.strip(0);
        x.right(0, 0, 0, 1, 0, 0, 0, -1);
        x.prove(4);
        x.witness(1, 2);
        x.sealOf(1, 3);
        x.seal(3, 99);
        x.told(1, 4);
        x.stay(0, 0, 0);
        x.value(0, 1);
        x.due(0, 1);
        x.strike(0);
        Check.read(x, 1, "right fall;");
        x.fall(0);
        x.clear();
        x.lot(9);
        x.deed(0, 1, 2, 0, 1);
        Check.due("something changed", Arrays.equals(before, Worlds.kept(x)) ? 1 : 0, 0);
        for (int i = 0; i < 2; i++) {
            Check.due("again()", x.again(), 1);
            int[] after = Worlds.kept(x);
            for (int k = 0; k < before.length; k++) Check.due("kept " + k, after[k], before[k]);
            x.days(1);
            x.clear();
            x.seal(1, 77);
        }
        x.again();
        Check.due("road(0, 1, 1)", x.road(0, 1, 1), 7);
        Check.due("seal(3, 0)", x.seal(3, 0), 5);
    }

    private static void whatIsNotKept() {
        FallenHouses x = Worlds.full();
        x.ride(0, 3, 0);
        x.keep();
        Check.feed(x, "right");
        x.ride(0, 7, 0);
        x.alterRow(0, 0, 9);
        x.sheet(2, 3, 4);
        x.put(2, 1, 8);
        x.shelf(3, 0, 1);
        x.deal(3, 0, 1);
        x.again();
        Check.due("the tape", x.many(11), 5);
        Check.due("rows", x.many(10), 3);
        Check.due("a row", x.row(0, 0), 9);
        Check.due("judge()", x.judge(), 1);
        Check.due("a sheet", x.item(2, 3, 1), 8);
        Check.due("a shelf", x.taken(3, 2), 1);
        Check.due("the trace", x.many(12), 2);
    }

    private static void latestIsKept() {
        FallenHouses x = new FallenHouses();
        Check.due("again()", x.again(), Check.NONE);
        x.keep();
        x.days(1);
        x.keep();
        x.days(1);
        x.again();
        Check.due("many(0)", x.many(0), 1);
        x.days(2);
        x.again();
        Check.due("many(0)", x.many(0), 1);
        x.person(0);
        x.keep();
        x.again();
        Check.due("many(1)", x.many(1), 1);
        Check.due("person(5)", x.person(5), 1);
    }

    /** What was read and is not there any more takes no room. */
    private static void rulesOftenReadAgain() {
        FallenHouses x = new FallenHouses();
        x.person(0);
        x.house(0, 0, 0, 1);
        x.right(0, 0, 0, 50, 0, 0, 0, -1);
        x.die(0, 0);
        x.days(1);
        x.keep();
        String text = "right fall if " + "order 1 or ".repeat(20) + "order 0;" + "alms fall;".repeat(4);
        for (int i = 0; i < 45; i++) {
            x.again();
            Check.due("read", Check.read(x, 0, text), 0);
        }
        x.fall(0);
        Check.due("why(0)", x.why(0), 0);
        Check.due("read(1)", Check.read(x, 1, "right stand if not held;"), 1);
        Check.due("why(0)", x.why(0), 100);
    }

    /** What comes anew under a number that there was is as new. */
    private static void newOnesBegin() {
        FallenHouses x = new FallenHouses();
        x.person(0);
        x.keep();
        for (int round = 0; round < 2; round++) {
            x.again();
            Check.due("house", x.house(0, 0, 5, 1), 0);
            x.house(0, 0, 0, 9);
            x.thing(0, 1, 9);
            x.right(2, 0, 0, 1, 0, 0, 0, -1);
            Check.due("houseOf(0, 8)", x.houseOf(0, 8), 0);
            Check.due("houseOf(0, 9)", x.houseOf(0, 9), Check.NONE);
            Check.due("houseOf(0, 4)", x.houseOf(0, 4), Check.NONE);
            Check.due("thingOf(0, 4)", x.thingOf(0, 4), 0);
            Check.due("thingOf(0, 3)", x.thingOf(0, 3), 0);
            Check.due("witness(0, 0)", x.witness(0, 0), 1);
            Check.due("sealOf(0, 1)", x.sealOf(0, 1), Check.NONE);
            Check.due("told(0, 50)", x.told(0, 50), 50);
            Check.due("rightOf(0, 8)", x.rightOf(0, 8), Check.NONE);
            Check.due("die(0, 9)", x.die(0, 9), 1);
            x.value(0, 40);
            x.fall(1);
            x.days(1);
            Check.due("show(0, 0)", x.show(0, 0), 1);
            Check.due("fall(0)", x.fall(0), 5);
        }
    }

    private static void acts() {
        FallenHouses x = new FallenHouses();
        x.person(0);
        x.house(0, 0, 0, 1);
        x.right(0, 0, 0, 50, 0, 0, 0, -1);
        Check.read(x, 0, "right stand if amount above 40 and held;");
        x.keep();
        Check.read(x, 0, "right fall; right rank 3 if not held or amount above 10;");
        x.again();
        Check.due("version(0, 3)", x.version(0, 3), Check.NONE);
        Check.due("version(1, 0)", x.version(1, 0), Check.BAD);
        Check.due("read(1)", Check.read(x, 1, "right rank 4 if (amount above 49); right rank 5 if amount above 50;"), 1);
        x.fall(0);
        Check.due("why(0)", x.why(0), 0);
        Check.due("stands(0)", x.stands(0), 1);
        Check.due("rank(0)", x.rank(0), 4);
    }
}
