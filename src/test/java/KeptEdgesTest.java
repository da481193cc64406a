import java.util.function.Consumer;

/** Promises 58 and 59, sentence by sentence: all that is kept comes back, one by one; nothing else does. */
final class KeptEdgesTest {
    public static void main(String[] args) {
        kept();
        keptThatIsAskedByOthers();
        notKept();
        latest();
        stays();
        anew();
        fewerThanBefore();
        refused();
        Check.finish();
    }

    private static void kept() {
        Check.sentence(58, "All but THE TAPE, ROWS, SHEETS, SHELVES, THE TRACE is kept: 1.");
        change("days", x -> x.days(1));
        change("road", x -> x.road(3, 4, 9));
        change("person", x -> x.person(7));
        change("die", x -> x.die(2, 30));
        change("house", x -> x.house(0, 0, 0, 1));
        change("fall", x -> x.fall(0));
        change("thing", x -> x.thing(0, 0, 1));
        change("sell", x -> x.sell(0));
        change("strip", x -> x.strip(0));
        change("right", x -> x.right(0, 0, 0, 1, 0, 0, 0, -1));
        change("prove", x -> x.prove(4));
        change("read", x -> Check.read(x, 1, "alms fall;"));
        change("read anew", x -> Check.read(x, 0, "alms fall;"));
        change("strike", x -> x.strike(0));
        change("sealOf", x -> x.sealOf(1, 1));
        change("seal", x -> x.seal(2, 9));
        change("stay", x -> x.stay(0, 0, 0));
        change("value", x -> x.value(1, 40));
        change("due", x -> x.due(0, 9));
        change("lot", x -> x.lot(9));
        change("buyer", x -> x.buyer(9));
        change("clear", x -> x.clear());
        change("deed", x -> x.deed(0, 0, 1, 0, 0));
        change("what days hide and rot", x -> x.days(400));
    }

    /** A call changes what can be asked, and again() brings it back, as often as one likes. */
    private static void change(String call, Consumer<FallenHouses> made) {
        FallenHouses x = Worlds.full();
        Check.due("keep()", x.keep(), 1);
        int[] before = Worlds.kept(x);
        for (int round = 0; round < 2; round++) {
            made.accept(x);
            Check.due(call + " changes something", java.util.Arrays.equals(before, Worlds.kept(x)) ? 0 : 1, 1);
            Check.due("again()", x.again(), 1);
            int[] after = Worlds.kept(x);
            for (int i = 0; i < before.length; i++) Check.due("behind " + call + ", kept " + i, after[i], before[i]);
        }
    }

    /** A witness, a rent that is told, a stay, a thing that is showed, a deed's day: asked by what comes of them. */
    private static void keptThatIsAskedByOthers() {
        Check.sentence(59, "It becomes what was kept latest (which stays): 1.");
        FallenHouses x = new FallenHouses();
        for (int i = 0; i < 3; i++) x.person(0);
        x.house(0, 0, 0, 1);
        x.house(0, 0, 0, 9);
        x.thing(0, 1, 9);
        x.right(2, 0, 0, 1, 0, 0, 100, -1);
        x.witness(0, 0);
        x.fall(1);
        x.days(1);
        x.keep();
        for (int round = 0; round < 2; round++) {
            Check.due("witness(0, 1)", x.witness(0, 1), 2);
            Check.due("told(0, 300)", x.told(0, 300), 300);
            Check.due("shown(0), told", x.shown(0), 4);
            Check.due("stay(0, 0, 100)", x.stay(0, 0, 100), 1);
            Check.due("stay(1, 1, 100)", x.stay(1, 1, 100), 2);
            Check.due("shown(0), stays", x.shown(0), 3);
            Check.due("show(0, 0)", x.show(0, 0), 1);
            Check.due("value(0, 40)", x.value(0, 40), 1);
            Check.due("deed(0, 0, 1, 0, 5)", x.deed(0, 0, 1, 0, 5), 0);
            Check.due("owed(0, 0, 0, 1)", x.owed(0, 0, 0, 1), 5);
            Check.due("again()", x.again(), 1);
            Check.due("shown(0)", x.shown(0), 0);
            Check.due("thingOf(0, 4)", x.thingOf(0, 4), 0);
            Check.due("houseOf(0, 9)", x.houseOf(0, 9), Check.NONE);
            Check.due("many(6)", x.many(6), 0);
        }
    }

    private static void notKept() {
        Check.sentence(58, "All but THE TAPE, ROWS, SHEETS, SHELVES, THE TRACE is kept");
        FallenHouses x = Worlds.full();
        Check.feed(x, "right ");
        x.ride(0, 1, 0);
        x.sheet(0, 2, 2);
        x.shelf(0, 0, 0);
        x.deal(0, 0, 1);
        x.keep();
        Check.feed(x, "stand;");
        x.ride(0, 7, 0);
        x.alterRow(1, 0, 55);
        x.sheet(0, 1, 3);
        x.put(0, 2, 44);
        x.shelf(0, 0, 1);
        x.shelf(1, 1, 0);
        x.deal(0, 1, 1);
        int[] host = Worlds.host(x);
        Check.due("again()", x.again(), 1);
        int[] then = Worlds.host(x);
        for (int i = 0; i < host.length; i++) Check.due("what is not kept, " + i, then[i], host[i]);
        Check.due("many(10)", x.many(10), 3);
        Check.due("row(1, 0)", x.row(1, 0), 55);
        Check.due("judge()", x.judge(), 2);
        Check.due("item(0, 1, 2)", x.item(0, 1, 2), 44);
        Check.due("taken(0, 2)", x.taken(0, 2), 1);
        Check.due("taken(1, 11)", x.taken(1, 11), 3);
        Check.due("many(12)", x.many(12), 4);
        Check.due("many(11)", x.many(11), 12);
        Check.due("read(2), the whole tape", x.read(2), 1);
        // keep() itself changes nothing either
        FallenHouses y = Worlds.full();
        int[] before = Worlds.kept(y);
        y.keep();
        int[] after = Worlds.kept(y);
        for (int i = 0; i < before.length; i++) Check.due("behind keep(), " + i, after[i], before[i]);
    }

    private static void latest() {
        Check.sentence(59, "what was kept latest");
        FallenHouses x = new FallenHouses();
        for (int day = 1; day <= 5; day++) {
            x.days(1);
            x.person(day);
            Check.due("keep()", x.keep(), 1);
        }
        x.days(1);
        Check.due("again()", x.again(), 1);
        Check.due("many(0)", x.many(0), 5);
        Check.due("many(1)", x.many(1), 5);
        FallenHouses first = new FallenHouses();
        first.keep();
        first.days(400);
        first.house(0, 0, 0, 1);
        first.again();
        for (int what = 0; what < 15; what++) Check.due("many(" + what + "), an empty one kept", first.many(what), 0);
        Check.due("road(0, 1, 5)", first.road(0, 1, 5), 5);
    }

    private static void stays() {
        Check.sentence(59, "(which stays)");
        FallenHouses x = new FallenHouses();
        x.days(3);
        x.house(1, 2, 3, 4);
        x.keep();
        for (int round = 0; round < 3; round++) {
            Check.due("days(2)", x.days(2), 5);
            Check.due("house", x.house(0, 0, 0, 1), 1);
            x.fall(0);
            Check.due("again()", x.again(), 1);
            Check.due("many(0)", x.many(0), 3);
            Check.due("many(2)", x.many(2), 1);
            Check.due("houseOf(0, 4)", x.houseOf(0, 4), Check.NONE);
            Check.due("again() again", x.again(), 1);
            Check.due("many(0)", x.many(0), 3);
        }
    }

    /** What comes anew under a number that there was is as new. */
    private static void anew() {
        Check.sentence(59, "It becomes what was kept latest");
        FallenHouses x = new FallenHouses();
        x.person(0);
        x.keep();
        for (int round = 0; round < 2; round++) {
            Check.due("house", x.house(0, 0, 5, 1), 0);
            x.house(0, 0, 0, 9);
            x.thing(0, 1, 9);
            x.right(2, 0, 0, 1, 0, 0, 0, -1);
            Check.due("houseOf(0, 8)", x.houseOf(0, 8), 0);
            Check.due("houseOf(0, 9)", x.houseOf(0, 9), Check.NONE);
            Check.due("thingOf(0, 4)", x.thingOf(0, 4), 0);
            Check.due("witness(0, 0)", x.witness(0, 0), 1);
            Check.due("sealOf(0, 1)", x.sealOf(0, 1), Check.NONE);
            Check.due("told(0, 50)", x.told(0, 50), 50);
            x.value(0, 40);
            x.fall(1);
            x.days(1);
            Check.due("show(0, 0)", x.show(0, 0), 1);
            Check.due("read(0)", Check.read(x, 0, round == 0 ? "alms rank 3 if held;" : "lease stand; lease fall if not held;"), 0);
            x.days(1);
            x.fall(0);
            Check.due("stands(0)", x.stands(0), round);
            Check.due("again()", x.again(), 1);
        }
    }

    /** What was reckoned of more HOUSES, LOTS and RIGHTS is not left over. */
    private static void fewerThanBefore() {
        Check.sentence(59, "It becomes what was kept latest");
        FallenHouses x = new FallenHouses();
        x.person(0);
        for (int i = 0; i < 2; i++) x.house(i, 0, 9, 9);
        x.right(1, 0, 0, 7, 0, 0, 0, -1);
        x.lot(5);
        x.buyer(5);
        x.keep();
        for (int i = 2; i < 8; i++) x.house(i, 0, 0, 9);
        for (int i = 2; i < 8; i++) x.right(1, i, 0, 900, 0, 0, 0, -1);
        for (int i = 0; i < 6; i++) x.lot(50);
        x.buyer(300);
        Check.due("order(0) of eight", x.order(0), 900 * (2 + 3 + 4 + 5 + 6 + 7) + 7);
        Check.due("sale(0, 1) of seven", x.sale(0, 1), 305);
        Check.due("ride(0, 254, 0)", x.ride(0, 254, 0), 7);
        x.again();
        Check.due("order(0)", x.order(0), 7);
        Check.due("order(1)", x.order(1), 1);
        Check.due("order(2)", x.order(2), 0);
        Check.due("sale(0, 1)", x.sale(0, 1), 5);
        Check.due("sale(6, 1)", x.sale(6, 1), Check.NONE);
        Check.due("ride(0, 3, 1)", x.ride(0, 3, 1), 7);
        Check.due("ride(0, 4, 1), not there any more", x.ride(0, 4, 1), Check.BAD);
        Check.due("many(10)", x.many(10), 2);
    }

    private static void refused() {
        Check.sentence(59, "NONE: nothing is kept.");
        FallenHouses x = Worlds.full();
        Check.refused(x, Check.NONE, "again()", y -> y.again());
        x.keep();
        Check.due("again()", x.again(), 1);
    }
}
