/** Promises 9 to 13: thing, thingOf, sell, show, strip; and what rots and is hidden as days go on (2). */
final class ThingsTest {
    public static void main(String[] args) {
        thing();
        sell();
        show();
        strip();
        rot();
        hide();
        rotAheadOfHiding();
        Check.finish();
    }

    private static void thing() {
        FallenHouses x = new FallenHouses();
        x.house(0, 0, 0, 1);
        x.house(0, 0, 0, 1);
        Check.due("thing(2, 0, 1)", x.thing(2, 0, 1), Check.BAD);
        Check.due("thing(-1, 0, 1)", x.thing(-1, 0, 1), Check.BAD);
        Check.due("thing(0, 4, 1)", x.thing(0, 4, 1), Check.BAD);
        Check.due("thing(0, -1, 1)", x.thing(0, -1, 1), Check.BAD);
        Check.due("thing(0, 0, 0)", x.thing(0, 0, 0), Check.BAD);
        Check.due("thing(0, 0, 100)", x.thing(0, 0, 100), Check.BAD);
        Check.due("thing(1, 3, 99)", x.thing(1, 3, 99), 0);
        int[] of = {1, 3, 99, 0, 0};
        for (int what = 0; what < of.length; what++) Check.due("thingOf(0, " + what + ")", x.thingOf(0, what), of[what]);
        Check.due("thingOf(0, 5)", x.thingOf(0, 5), Check.BAD);
        Check.due("thingOf(0, -1)", x.thingOf(0, -1), Check.BAD);
        Check.due("thingOf(1, 0)", x.thingOf(1, 0), Check.BAD);
        Check.due("thingOf(-1, 0)", x.thingOf(-1, 0), Check.BAD);
        x.fall(1);
        Check.due("thing(1, 0, 1)", x.thing(1, 0, 1), Check.STATE);
        for (int i = 1; i < 24; i++) Check.due("thing(0, 0, 1)", x.thing(0, 0, 1), i);
        Check.due("thing(0, 0, 1)", x.thing(0, 0, 1), Check.FULL);
        Check.due("thing(1, 0, 1), fallen and full", x.thing(1, 0, 1), Check.STATE);
        Check.due("thing(1, 0, 0), all of it", x.thing(1, 0, 0), Check.BAD);
        Check.due("many(3)", x.many(3), 24);
    }

    private static void sell() {
        FallenHouses x = new FallenHouses();
        x.house(0, 0, 9950, 1);
        x.house(0, 0, 3, 1);
        x.thing(0, 0, 40);
        x.thing(0, 1, 40);
        x.thing(1, 2, 9);
        Check.due("sell(3)", x.sell(3), Check.BAD);
        Check.due("sell(-1)", x.sell(-1), Check.BAD);
        Check.due("sell(0)", x.sell(0), 9990);
        Check.due("sell(1)", x.sell(1), 9999);
        Check.due("sell(1)", x.sell(1), Check.STATE);
        Check.due("thingOf(1, 3)", x.thingOf(1, 3), 4);
        x.fall(1);
        Check.due("sell(2), of a fallen house", x.sell(2), 12);
        Check.due("houseOf(1, 2)", x.houseOf(1, 2), 12);
        Check.due("houseOf(0, 2)", x.houseOf(0, 2), 9999);
    }

    private static void show() {
        FallenHouses x = new FallenHouses();
        x.person(0);
        x.person(0);
        x.person(0);
        x.house(0, 0, 0, 1);
        x.house(0, 0, 0, 9);
        x.house(0, 0, 0, 9);
        x.thing(0, 1, 10);
        x.thing(0, 2, 20);
        x.right(2, 0, 0, 5, 0, 0, 0, -1);
        x.right(2, 1, 1, 5, 0, 9, 0, -1);
        x.right(1, 0, 1, 5, 0, 9, 0, -1);
        x.right(2, 0, 2, 5, 0, 9, 0, -1);
        Check.due("show(0, 0), there", x.show(0, 0), Check.STATE);
        x.fall(2);
        x.days(1);
        Check.due("show(2, 0)", x.show(2, 0), Check.BAD);
        Check.due("show(1, 3)", x.show(1, 3), Check.BAD);
        Check.due("show(-1, 0)", x.show(-1, 0), Check.BAD);
        Check.due("show(1, -1)", x.show(1, -1), Check.BAD);
        Check.due("show(0, 0), not hidden", x.show(0, 0), Check.STATE);
        Check.due("show(1, 1), a lease elsewhere and a rent", x.show(1, 1), Check.STATE);
        x.die(2, 0);
        Check.due("show(1, 2), dead", x.show(1, 2), Check.STATE);
        Check.due("thingOf(1, 4)", x.thingOf(1, 4), 0);
        x.days(1);
        Check.due("show(1, 0), the lease ran to day 0 but isn't gone", x.show(1, 0), 1);
        Check.due("thingOf(1, 4)", x.thingOf(1, 4), 1);
        Check.due("show(1, 0) again", x.show(1, 0), 1);
        x.right(7, 1, 1, 5, 0, 9, 0, -1);
        x.prove(4);
        Check.due("show(0, 0), the lease is gone", x.show(0, 0), Check.STATE);
        Check.read(x, 0, "lease stand;");
        x.right(2, 0, 0, 5, 0, 0, 0, -1);
        x.fall(0);
        Check.due("show(0, 0), a lease that stands", x.show(0, 0), 1);
        x.strike(0);
        Check.due("show(0, 0), none stands", x.show(0, 0), Check.STATE);
    }

    private static void strip() {
        FallenHouses x = new FallenHouses();
        x.person(0);
        x.house(0, 0, 50, 1);
        x.house(0, 0, 0, 1);
        x.thing(0, 3, 10);
        x.thing(0, 3, 20);
        x.thing(0, 3, 40);
        x.thing(0, 0, 80);
        x.thing(1, 3, 99);
        x.thing(0, 3, 7);
        x.sell(1);
        x.right(6, 0, 0, 5, 0, 1, 2, -1);
        x.days(6);
        Check.due("strip(2)", x.strip(2), Check.BAD);
        Check.due("strip(-1)", x.strip(-1), Check.BAD);
        Check.due("strip(0)", x.strip(0), 17);
        Check.due("houseOf(0, 5)", x.houseOf(0, 5), 6);
        Check.due("houseOf(0, 2)", x.houseOf(0, 2), 70);
        int[] are = {3, 4, 2, 0, 0, 3};
        for (int i = 0; i < are.length; i++) Check.due("thingOf(" + i + ", 3)", x.thingOf(i, 3), are[i]);
        x.thing(0, 3, 9);
        Check.due("strip(0)", x.strip(0), Check.STATE);
        Check.due("thingOf(6, 3), lead that came later", x.thingOf(6, 3), 0);
        x.fall(1);
        Check.due("strip(1), fallen", x.strip(1), 99);
        x.house(0, 0, 0, 1);
        Check.due("strip(2), without lead", x.strip(2), 0);
    }

    private static void rot() {
        FallenHouses x = new FallenHouses();
        x.person(0);
        x.house(0, 0, 0, 9);
        x.house(0, 0, 0, 9);
        x.thing(0, 2, 30);
        x.thing(0, 2, 10);
        x.thing(0, 2, 10);
        x.thing(0, 2, 1);
        x.thing(0, 2, 2);
        x.thing(0, 1, 1);
        x.thing(1, 2, 1);
        x.sell(3);
        x.right(6, 0, 0, 5, 0, 1, 4, -1);
        x.days(5);
        x.strip(0);
        x.fall(0);
        x.days(9);
        Check.due("nothing rots on day 9", x.houseOf(0, 15), 0);
        x.days(1);
        Check.due("the least worth, of two the first", x.thingOf(1, 3), 5);
        Check.due("one only", x.houseOf(0, 15), 1);
        x.days(10);
        Check.due("then the second", x.thingOf(2, 3), 5);
        x.days(10);
        Check.due("then the rest", x.thingOf(0, 3), 5);
        x.days(40);
        Check.due("no more", x.houseOf(0, 15), 3);
        Check.due("what was sold stays sold", x.thingOf(3, 3), 4);
        Check.due("what is pawned stays pawned", x.thingOf(4, 3), 2);
        Check.due("plate does not rot", x.thingOf(5, 3), 0);
        Check.due("another house", x.thingOf(6, 3), 0);
    }

    private static void hide() {
        FallenHouses x = new FallenHouses();
        x.person(0);
        x.house(0, 0, 0, 2);
        x.house(0, 0, 0, 9);
        x.house(0, 0, 0, 9);
        x.thing(0, 0, 99);
        x.thing(0, 3, 98);
        x.thing(0, 1, 20);
        x.thing(0, 2, 30);
        x.thing(0, 1, 30);
        x.thing(0, 2, 97);
        x.right(6, 0, 0, 5, 0, 1, 5, -1);
        x.fall(1);
        x.days(3);
        Check.due("one fall is less than the fear", x.houseOf(0, 11), 0);
        x.fall(2);
        Check.due("nothing is hidden ahead of the next day", x.houseOf(0, 11), 0);
        x.days(1);
        Check.due("the greatest worth, of two the first", x.thingOf(3, 3), 1);
        Check.due("one a day", x.houseOf(0, 11), 1);
        x.days(1);
        Check.due("then the second", x.thingOf(4, 3), 1);
        x.days(1);
        Check.due("then the rest", x.thingOf(2, 3), 1);
        x.days(5);
        Check.due("neither bell nor lead nor what is pawned", x.houseOf(0, 11), 3);
        // an abbot of a fallen house hides nothing
        FallenHouses y = new FallenHouses();
        y.house(0, 0, 0, 1);
        y.house(0, 0, 0, 1);
        y.thing(0, 1, 5);
        y.fall(1);
        y.fall(0);
        y.days(2);
        Check.due("a fallen house hides nothing", y.houseOf(0, 11), 0);
    }

    /** A book that is there rots ahead of being hidden on the same day; a hidden one rots, too. */
    private static void rotAheadOfHiding() {
        FallenHouses x = new FallenHouses();
        x.house(0, 0, 0, 1);
        x.house(0, 0, 0, 1);
        x.thing(0, 2, 5);
        x.strip(0);
        x.days(9);
        x.fall(1);
        x.days(1);
        Check.due("the book rots, and isn't hidden", x.thingOf(0, 3), 5);
        FallenHouses y = new FallenHouses();
        y.house(0, 0, 0, 1);
        y.house(0, 0, 0, 1);
        y.thing(0, 2, 5);
        y.thing(0, 2, 6);
        y.strip(0);
        y.fall(1);
        y.days(2);
        Check.due("both are hidden", y.houseOf(0, 11), 2);
        y.days(8);
        Check.due("a hidden book rots", y.thingOf(0, 3), 5);
        Check.due("one only", y.thingOf(1, 3), 1);
    }
}
