/** Promises 1 to 8: a new object, days, road, person, die, house, fall, houseOf. */
final class LandTest {
    public static void main(String[] args) {
        newObject();
        days();
        road();
        personAndDie();
        house();
        fall();
        houseOf();
        Check.finish();
    }

    private static void newObject() {
        FallenHouses x = new FallenHouses();
        for (int what = 0; what <= 14; what++) Check.due("many(" + what + ")", x.many(what), 0);
        Check.due("again()", x.again(), Check.NONE);
        Check.due("judge()", x.judge(), Check.NONE);
        Check.due("item(3, 0, 0)", x.item(3, 0, 0), -11);
        Check.due("taken(3, 0)", x.taken(3, 0), -11);
        Check.due("strike(0)", x.strike(0), Check.NONE);
        for (int a = 0; a < 10; a++) {
            for (int b = a + 1; b < 10; b++) Check.due("road", x.road(a, b, 1), 5);
        }
        for (int seal = 0; seal < 4; seal++) Check.due("seal", x.seal(seal, 1), 0);
    }

    private static void days() {
        FallenHouses x = new FallenHouses();
        Check.due("days(0)", x.days(0), Check.BAD);
        Check.due("days(401)", x.days(401), Check.BAD);
        Check.due("days(MIN)", x.days(Integer.MIN_VALUE), Check.BAD);
        Check.due("days(MAX)", x.days(Integer.MAX_VALUE), Check.BAD);
        Check.due("days(1)", x.days(1), 1);
        for (int i = 1; i <= 8; i++) Check.due("days(400)", x.days(400), 1 + 400 * i);
        Check.due("days(399)", x.days(399), Check.STATE);
        Check.due("days(398)", x.days(398), 3599);
        Check.due("days(1)", x.days(1), Check.STATE);
        Check.due("days(0)", x.days(0), Check.BAD);
        Check.due("many(0)", x.many(0), 3599);
    }

    private static void road() {
        FallenHouses x = new FallenHouses();
        Check.due("road(0, 9, 20)", x.road(0, 9, 20), 5);
        Check.due("road(9, 0, 1)", x.road(9, 0, 1), 20);
        Check.due("road(0, 9, 7)", x.road(0, 9, 7), 1);
        Check.due("road(0, 10, 7)", x.road(0, 10, 7), Check.BAD);
        Check.due("road(10, 0, 7)", x.road(10, 0, 7), Check.BAD);
        Check.due("road(-1, 0, 7)", x.road(-1, 0, 7), Check.BAD);
        Check.due("road(0, -1, 7)", x.road(0, -1, 7), Check.BAD);
        Check.due("road(4, 4, 7)", x.road(4, 4, 7), Check.BAD);
        Check.due("road(0, 9, 0)", x.road(0, 9, 0), Check.BAD);
        Check.due("road(0, 9, 21)", x.road(0, 9, 21), Check.BAD);
        Check.due("road(9, 0, 3)", x.road(9, 0, 3), 7);
    }

    private static void personAndDie() {
        FallenHouses x = new FallenHouses();
        Check.due("person(-1)", x.person(-1), Check.BAD);
        Check.due("person(3600)", x.person(3600), Check.BAD);
        Check.due("person(3599)", x.person(3599), 0);
        Check.due("person(20)", x.person(20), 1);
        Check.due("die(1, 19)", x.die(1, 19), Check.BAD);
        Check.due("die(1, 3600)", x.die(1, 3600), Check.BAD);
        Check.due("die(1, -1)", x.die(1, -1), Check.BAD);
        Check.due("die(2, 30)", x.die(2, 30), Check.BAD);
        Check.due("die(-1, 30)", x.die(-1, 30), Check.BAD);
        Check.due("die(1, 20)", x.die(1, 20), 1);
        Check.due("die(1, 30)", x.die(1, 30), Check.STATE);
        Check.due("die(1, 19)", x.die(1, 19), Check.BAD);
        Check.due("die(0, 3599)", x.die(0, 3599), 1);
        for (int i = 2; i < 16; i++) Check.due("person(0)", x.person(0), i);
        Check.due("person(0)", x.person(0), Check.FULL);
        Check.due("person(3600)", x.person(3600), Check.BAD);
        Check.due("many(1)", x.many(1), 16);
    }

    private static void house() {
        FallenHouses x = new FallenHouses();
        Check.due("house(10, 0, 0, 1)", x.house(10, 0, 0, 1), Check.BAD);
        Check.due("house(-1, 0, 0, 1)", x.house(-1, 0, 0, 1), Check.BAD);
        Check.due("house(0, 4, 0, 1)", x.house(0, 4, 0, 1), Check.BAD);
        Check.due("house(0, -1, 0, 1)", x.house(0, -1, 0, 1), Check.BAD);
        Check.due("house(0, 0, -1, 1)", x.house(0, 0, -1, 1), Check.BAD);
        Check.due("house(0, 0, 10000, 1)", x.house(0, 0, 10000, 1), Check.BAD);
        Check.due("house(0, 0, 0, 0)", x.house(0, 0, 0, 0), Check.BAD);
        Check.due("house(0, 0, 0, 10)", x.house(0, 0, 0, 10), Check.BAD);
        Check.due("house(9, 3, 9999, 9)", x.house(9, 3, 9999, 9), 0);
        for (int i = 1; i < 8; i++) Check.due("house(0, 0, 0, 1)", x.house(0, 0, 0, 1), i);
        Check.due("house(0, 0, 0, 1)", x.house(0, 0, 0, 1), Check.FULL);
        Check.due("house(0, 0, 0, 0)", x.house(0, 0, 0, 0), Check.BAD);
        Check.due("many(2)", x.many(2), 8);
    }

    private static void fall() {
        FallenHouses x = new FallenHouses();
        x.person(0);
        x.house(0, 0, 100, 1);
        x.house(0, 0, 7, 1);
        x.thing(0, 0, 50);
        x.thing(0, 1, 20);
        x.thing(0, 2, 5);
        x.thing(0, 3, 11);
        x.thing(1, 0, 99);
        x.right(6, 0, 0, 10, 0, 1, 1, -1);
        x.sell(0);
        x.days(3);
        Check.due("fall(-1)", x.fall(-1), Check.BAD);
        Check.due("fall(2)", x.fall(2), Check.BAD);
        // coin 100 and 50 for the bell; plate that is pawned, book and lead
        Check.due("fall(0)", x.fall(0), 150 + 20 + 5 + 11);
        Check.due("fall(0)", x.fall(0), Check.STATE);
        x.sell(3);
        x.strip(0);
        Check.due("houseOf(0, 20)", x.houseOf(0, 20), 186);
        Check.due("houseOf(0, 2)", x.houseOf(0, 2), 161);
        Check.due("houseOf(1, 20)", x.houseOf(1, 20), Check.NONE);
        x.days(1);
        Check.due("houseOf(1, 11)", x.houseOf(1, 11), 0);
        Check.due("fall(1)", x.fall(1), 106);
        Check.due("houseOf(0, 4)", x.houseOf(0, 4), 3);
        Check.due("houseOf(1, 4)", x.houseOf(1, 4), 4);
        Check.due("many(13)", x.many(13), 2);
        // what is hidden or melted is not had
        x.house(0, 0, 0, 1);
        x.thing(2, 1, 40);
        x.thing(2, 3, 30);
        x.strip(2);
        x.days(1);
        Check.due("thingOf(5, 3)", x.thingOf(5, 3), 1);
        Check.due("fall(2)", x.fall(2), 0);
    }

    private static void houseOf() {
        FallenHouses x = new FallenHouses();
        x.days(4);
        x.house(3, 2, 77, 6);
        int[] first = {3, 2, 77, 6, Check.NONE, Check.NONE, 3599, 0, 0, Check.NONE, 0, 0, 0, 0, 0, 0};
        for (int what = 0; what < first.length; what++) {
            Check.due("houseOf(0, " + what + ")", x.houseOf(0, what), first[what]);
        }
        for (int what : new int[] {16, 17, 18, 19, 21, -1, Integer.MAX_VALUE, Integer.MIN_VALUE}) {
            Check.due("houseOf(0, " + what + ")", x.houseOf(0, what), Check.BAD);
        }
        Check.due("houseOf(0, 20)", x.houseOf(0, 20), Check.NONE);
        Check.due("houseOf(1, 0)", x.houseOf(1, 0), Check.BAD);
        Check.due("houseOf(-1, 0)", x.houseOf(-1, 0), Check.BAD);
        x.thing(0, 0, 5);
        x.thing(0, 3, 6);
        x.due(0, 40);
        x.value(0, 5);
        x.strip(0);
        x.sell(0);
        x.days(1);
        int[] then = {3, 2, 82, 6, Check.NONE, 4, 40, 0, 1, 4, 0, 0, 0, 1, 1, 0};
        for (int what = 0; what < then.length; what++) {
            Check.due("houseOf(0, " + what + ")", x.houseOf(0, what), then[what]);
        }
        heard();
    }

    private static void heard() {
        FallenHouses x = new FallenHouses();
        x.house(0, 0, 0, 9);
        x.house(0, 0, 0, 9);
        x.house(1, 0, 0, 9);
        x.road(0, 1, 2);
        x.fall(1);
        Check.due("heard of one at the same place", x.houseOf(0, 7), 1);
        FallenHouses y = new FallenHouses();
        y.house(0, 0, 0, 9);
        y.house(0, 0, 0, 9);
        y.fall(0);
        Check.due("heard of house 0", y.houseOf(1, 7), 1);
        Check.due("heard on the road", x.houseOf(2, 7), 0);
        x.days(1);
        x.fall(2);
        x.days(1);
        Check.due("heard then", x.houseOf(0, 7), 1);
        x.days(1);
        Check.due("heard of both", x.houseOf(0, 7), 2);
        Check.due("a fallen house hears nothing", x.houseOf(1, 7), 0);
        x.road(1, 0, 3);
        Check.due("heard by the road as it is", x.houseOf(0, 7), 1);
        x.fall(0);
        Check.due("fallen", x.houseOf(0, 7), 0);
    }
}
