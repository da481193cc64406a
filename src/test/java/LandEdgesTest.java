/** Promises 1 to 8, sentence by sentence: each bound with what is on it and what is behind it. */
final class LandEdgesTest {
    public static void main(String[] args) {
        newObject();
        nothingIsShared();
        manyCalls();
        days();
        rotting();
        rottingOfWhat();
        fear();
        hiding();
        rotAheadOfHiding();
        road();
        person();
        die();
        alive();
        house();
        fall();
        had();
        houseOf();
        heardToday();
        houseOfRefused();
        Check.finish();
    }

    private static void newObject() {
        Check.sentence(1, "DAY 0; nothing is there; nothing is kept.");
        FallenHouses x = new FallenHouses();
        for (int what = 0; what <= 14; what++) Check.due("many(" + what + ")", x.many(what), 0);
        Check.refused(x, Check.NONE, "again()", y -> y.again());
        int[] bad = {x.die(0, 0), x.fall(0), x.houseOf(0, 0), x.thingOf(0, 0), x.sell(0), x.show(0, 0), x.strip(0),
            x.thing(0, 0, 1), x.rightOf(0, 0), x.hangs(0), x.prove(0), x.version(0, 0), x.stands(0), x.why(0), x.rank(0),
            x.gets(0), x.pension(0, 0), x.witness(0, 0), x.sealOf(0, 0), x.told(0, 0), x.stay(0, 0, 0), x.shown(0),
            x.value(0, 0), x.due(0, 0), x.ride(0, 1, 0), x.sale(0, 10), x.owed(0, 0, 0, 0), x.order(1), x.shelf(0, 0, 0)};
        for (int i = 0; i < bad.length; i++) Check.due("call " + i + " on what is not there", bad[i], Check.BAD);
        int[] none = {x.strike(0), x.ride(0, 0, 0), x.dropRow(), x.judge(), x.title(0, 0, 0), x.trace(0)};
        for (int i = 0; i < none.length; i++) Check.due("call " + i + " for what is not there", none[i], Check.NONE);
        Check.due("row(0, 0)", x.row(0, 0), -9);
        Check.due("item(0, 0, 0)", x.item(0, 0, 0), -11);
        Check.due("taken(0, 0)", x.taken(0, 0), -11);
        Check.due("deal(0, 0, 5)", x.deal(0, 0, 5), 0);
        Check.due("clear()", x.clear(), 0);
        Check.due("quarrels(0, 0)", x.quarrels(0, 0), 0);
        Check.due("order(0)", x.order(0), 0);
        Check.due("sale(0, 1)", x.sale(0, 1), 0);
        Check.sentence(1, "TODAY is one (0 at first).");
        Check.due("many(0)", new FallenHouses().many(0), 0);
        Check.due("title(0, 0, 1), behind TODAY", x.title(0, 0, 1), Check.BAD);
    }

    private static void nothingIsShared() {
        Check.sentence(1, "nothing is there; nothing is kept.");
        FallenHouses x = Worlds.full();
        x.keep();
        FallenHouses y = new FallenHouses();
        for (int what = 0; what <= 14; what++) Check.due("many(" + what + ") beside another object", y.many(what), 0);
        Check.due("again() beside another object", y.again(), Check.NONE);
        Check.due("road(0, 1, 2) beside another object", y.road(0, 1, 2), 5);
    }

    private static void manyCalls() {
        Check.sentence(1, "An object is used for at most 512 calls after it has been made; what later calls answer is free.");
        FallenHouses x = new FallenHouses();
        for (int i = 1; i < 512; i++) x.road(0, 1, 1 + i % 20);
        Check.due("the 512th call", x.road(1, 0, 1), 1 + 511 % 20);
        FallenHouses y = new FallenHouses();
        for (int i = 0; i < 255; i++) {
            y.keep();
            y.days(1);
        }
        y.again();
        Check.due("the 512th call", y.many(0), 254);
    }

    private static void days() {
        Check.sentence(2, "TODAY goes n (1 to 400) DAYS on: it.");
        FallenHouses x = new FallenHouses();
        Check.due("days(1)", x.days(1), 1);
        Check.due("days(400)", x.days(400), 401);
        Check.due("days(399)", x.days(399), 800);
        Check.due("many(0)", x.many(0), 800);
        Check.sentence(2, "BAD: n isn't as told;");
        for (int n : Check.outside(1, 400)) Check.refused(x, Check.BAD, "days(" + n + ")", y -> y.days(n));
        Check.refused(x, Check.BAD, "days(-1)", y -> y.days(-1));
        Check.sentence(2, "STATE: it would be above 3599.");
        Check.until(x, 3200);
        Check.refused(x, Check.STATE, "days(400) on 3200", y -> y.days(400));
        Check.due("days(399) on 3200", x.days(399), 3599);
        Check.refused(x, Check.STATE, "days(1) on 3599", y -> y.days(1));
        Check.refused(x, Check.STATE, "days(400) on 3599", y -> y.days(400));
        Check.refused(x, Check.BAD, "days(401) on 3599, the first named", y -> y.days(401));
        Check.refused(x, Check.BAD, "days(0) on 3599", y -> y.days(0));
        Check.due("many(0)", x.many(0), 3599);
    }

    private static void rotting() {
        Check.sentence(2, "On each DAY that is 10, 20, 30 .. DAYS behind that one of its books that are there, or HIDDEN, has ROTTED, "
            + "that of the least WORTH, of several the least.");
        FallenHouses x = new FallenHouses();
        x.house(0, 0, 0, 9);
        for (int worth : new int[] {4, 3, 2, 2, 99}) x.thing(0, 2, worth);
        x.days(7);
        x.strip(0);
        Check.due("rotted on the day itself", x.houseOf(0, 15), 0);
        x.days(9);
        Check.due("rotted 9 days behind", x.houseOf(0, 15), 0);
        x.days(1);
        Check.due("rotted 10 days behind", x.houseOf(0, 15), 1);
        Check.due("the least worth, of two the least", x.thingOf(2, 3), 5);
        x.days(9);
        Check.due("rotted 19 days behind", x.houseOf(0, 15), 1);
        x.days(1);
        Check.due("rotted 20 days behind", x.houseOf(0, 15), 2);
        Check.due("the other of these", x.thingOf(3, 3), 5);
        x.days(10);
        Check.due("30 days behind", x.thingOf(1, 3), 5);
        x.days(10);
        Check.due("40 days behind", x.thingOf(0, 3), 5);
        x.days(10);
        Check.due("50 days behind", x.thingOf(4, 3), 5);
        x.days(10);
        Check.due("no book is left", x.houseOf(0, 15), 5);
        FallenHouses y = new FallenHouses();
        y.house(0, 0, 0, 9);
        for (int i = 0; i < 24; i++) y.thing(0, 2, 1);
        y.strip(0);
        y.days(239);
        Check.due("in one call of 239 days", y.houseOf(0, 15), 23);
    }

    private static void rottingOfWhat() {
        Check.sentence(2, "one of its books that are there, or HIDDEN, has ROTTED");
        FallenHouses x = new FallenHouses();
        x.person(0);
        for (int i = 0; i < 3; i++) x.house(0, 0, 0, i == 0 ? 1 : 9);
        x.thing(0, 2, 1);
        x.thing(0, 2, 2);
        x.thing(0, 1, 3);
        x.thing(0, 0, 4);
        x.thing(0, 2, 50);
        x.thing(1, 2, 6);
        x.sell(0);
        x.right(6, 0, 0, 1, 0, 0, 1, -1);
        x.strip(0);
        x.fall(2);
        x.days(10);
        Check.due("the book was hidden, and rotted", x.thingOf(4, 3), 5);
        x.days(20);
        int[] are = {4, 2, 1, 0, 5, 0};
        for (int i = 0; i < are.length; i++) Check.due("thingOf(" + i + ", 3)", x.thingOf(i, 3), are[i]);
        x.strip(1);
        x.fall(1);
        x.days(10);
        Check.due("a book of a fallen house rots, too", x.thingOf(5, 3), 5);
    }

    private static void fear() {
        Check.sentence(2, "FEAR: an ABBOT of a HOUSE that hasn't FALLEN has HEARD, on a DAY, of each other HOUSE that FELL on a DAY "
            + "that is not above it less the ROAD between the two PLACES.");
        FallenHouses x = new FallenHouses();
        x.house(0, 0, 0, 1);
        x.house(1, 0, 0, 1);
        x.thing(0, 1, 5);
        x.thing(1, 1, 5);
        x.road(0, 1, 3);
        x.days(4);
        x.fall(1);
        x.days(2);
        Check.due("the day ahead of that on which it is heard", x.houseOf(0, 11), 0);
        x.days(1);
        Check.due("the day on which it is heard", x.houseOf(0, 11), 1);
        Check.due("a fallen house hides nothing, nor hears of itself", x.houseOf(1, 11), 0);
        FallenHouses y = new FallenHouses();
        y.house(0, 0, 0, 1);
        y.house(0, 0, 0, 1);
        y.thing(0, 1, 5);
        y.fall(1);
        Check.due("heard of at once, but the day has not gone on", y.houseOf(0, 11), 0);
        y.days(1);
        Check.due("then it is hidden", y.houseOf(0, 11), 1);
    }

    private static void hiding() {
        Check.sentence(2, "On each DAY on which he has HEARD of as many as his FEAR, or more, one THING of the HOUSE that is there and "
            + "is plate or a book is HIDDEN, that of the greatest WORTH, of several the least.");
        FallenHouses x = new FallenHouses();
        x.person(0);
        x.house(0, 0, 0, 2);
        for (int i = 0; i < 3; i++) x.house(0, 0, 0, 9);
        int[][] things = {{2, 7}, {1, 9}, {2, 9}, {0, 99}, {3, 98}, {1, 97}, {2, 96}, {1, 1}};
        for (int[] t : things) x.thing(0, t[0], t[1]);
        x.right(6, 0, 0, 1, 0, 0, 5, -1);
        x.sell(6);
        x.fall(1);
        x.days(5);
        Check.due("one less than the fear", x.houseOf(0, 11), 0);
        x.fall(2);
        x.days(1);
        Check.due("as many as the fear: one", x.houseOf(0, 11), 1);
        Check.due("the greatest worth, of two the least", x.thingOf(1, 3), 1);
        x.fall(3);
        x.days(1);
        Check.due("more than the fear: one again", x.houseOf(0, 11), 2);
        Check.due("the other of these", x.thingOf(2, 3), 1);
        x.days(2);
        int[] are = {1, 1, 1, 0, 0, 2, 4, 1};
        for (int i = 0; i < are.length; i++) Check.due("thingOf(" + i + ", 3)", x.thingOf(i, 3), are[i]);
        x.days(3);
        Check.due("nothing is left to hide", x.houseOf(0, 11), 4);
        FallenHouses y = new FallenHouses();
        for (int i = 0; i < 8; i++) y.house(0, 0, 0, i == 0 ? 7 : 9);
        y.thing(0, 2, 1);
        for (int i = 1; i < 7; i++) y.fall(i);
        y.days(1);
        Check.due("six of seven", y.houseOf(0, 11), 0);
        y.fall(7);
        y.days(1);
        Check.due("seven of seven", y.houseOf(0, 11), 1);
    }

    private static void rotAheadOfHiding() {
        Check.sentence(2, "As TODAY goes on by a DAY: first books rot, HOUSE by HOUSE; then ABBOTS hide, HOUSE by HOUSE.");
        FallenHouses x = new FallenHouses();
        for (int i = 0; i < 3; i++) x.house(0, 0, 0, 1);
        x.thing(0, 2, 9);
        x.thing(0, 2, 5);
        x.thing(1, 2, 4);
        x.strip(0);
        x.strip(1);
        x.days(9);
        x.fall(2);
        x.days(1);
        Check.due("the book of least worth rots", x.thingOf(1, 3), 5);
        Check.due("the other one is hidden", x.thingOf(0, 3), 1);
        Check.due("the only book of house 1 rots, and is not hidden", x.thingOf(2, 3), 5);
        FallenHouses one = Worlds.full();
        FallenHouses two = Worlds.full();
        one.strip(0);
        two.strip(0);
        one.days(25);
        for (int i = 0; i < 25; i++) two.days(1);
        int[] a = Worlds.kept(one);
        int[] b = Worlds.kept(two);
        for (int i = 0; i < a.length; i++) Check.due("25 days at once and one by one, " + i, a[i], b[i]);
    }

    private static void road() {
        Check.sentence(3, "ROAD between two PLACES is n: what it was.");
        FallenHouses x = new FallenHouses();
        Check.due("road(0, 9, 1)", x.road(0, 9, 1), 5);
        Check.due("road(0, 9, 20)", x.road(0, 9, 20), 1);
        Check.due("road(0, 9, 20)", x.road(0, 9, 20), 20);
        Check.due("road(0, 8, 2), another one", x.road(0, 8, 2), 5);
        Check.sentence(3, "ROAD between two PLACES: DAYS (1 to 20; 5 at first; 0 from one to itself), the same both ways.");
        FallenHouses y = new FallenHouses();
        for (int a = 0; a < 10; a++) {
            for (int b = 0; b < a; b++) Check.due("road(" + a + ", " + b + ")", y.road(a, b, 1 + (3 * a + b) % 20), 5);
        }
        for (int a = 0; a < 10; a++) {
            for (int b = 0; b < a; b++) Check.due("road(" + b + ", " + a + ")", y.road(b, a, 20), 1 + (3 * a + b) % 20);
        }
        y.house(4, 0, 0, 1);
        Check.due("a ride from a place to itself", y.ride(4, 1, 1), 1);
        Check.due("a ride by a road of 20", y.ride(3, 1, 1), 21);
        Check.sentence(3, "PLACES are 0 to 9.");
        Check.due("road(9, 8, 5)", x.road(9, 8, 5), 5);
        for (int place : Check.outside(0, 9)) {
            Check.refused(x, Check.BAD, "road(" + place + ", 0, 5)", z -> z.road(place, 0, 5));
            Check.refused(x, Check.BAD, "road(0, " + place + ", 5)", z -> z.road(0, place, 5));
        }
        Check.sentence(3, "BAD: there is no such PLACE (either), they are the same, or n isn't as told.");
        for (int place = 0; place < 10; place++) {
            int same = place;
            Check.refused(x, Check.BAD, "road(" + place + ", " + place + ", 5)", z -> z.road(same, same, 5));
        }
        for (int n : Check.outside(1, 20)) Check.refused(x, Check.BAD, "road(1, 2, " + n + ")", z -> z.road(1, 2, n));
        Check.refused(x, Check.BAD, "road(10, 10, 5)", z -> z.road(10, 10, 5));
        Check.due("road(1, 2, 1)", x.road(1, 2, 1), 5);
    }

    private static void person() {
        Check.sentence(4, "A PERSON is BORN: their number.");
        FallenHouses x = new FallenHouses();
        Check.due("person(5)", x.person(5), 0);
        Check.due("person(5)", x.person(5), 1);
        Check.sentence(4, "DAYS are 0 to 3599;");
        Check.due("person(0)", x.person(0), 2);
        Check.due("person(3599)", x.person(3599), 3);
        for (int day : Check.noDays()) Check.refused(x, Check.BAD, "person(" + day + ")", y -> y.person(day));
        Check.sentence(4, "PERSONS, 16 at most, numbered as they come, are BORN on a DAY");
        for (int i = 4; i < 16; i++) Check.due("person(0)", x.person(0), i);
        Check.refused(x, Check.FULL, "person(0), the seventeenth", y -> y.person(0));
        Check.due("many(1)", x.many(1), 16);
        Check.sentence(4, "BAD: there is no such DAY; FULL.");
        Check.refused(x, Check.BAD, "person(3600), full, too", y -> y.person(3600));
        Check.refused(x, Check.FULL, "person(3599), full", y -> y.person(3599));
    }

    private static void die() {
        Check.sentence(5, "A PERSON DIES on a DAY: 1.");
        FallenHouses x = new FallenHouses();
        for (int born : new int[] {0, 20, 20, 3599, 0}) x.person(born);
        Check.due("die(0, 3599)", x.die(0, 3599), 1);
        Check.sentence(5, "BAD: there is no such PERSON, DAY, or it is ahead of that on which they were BORN;");
        for (int p : Check.outside(0, 4)) Check.refused(x, Check.BAD, "die(" + p + ", 30)", y -> y.die(p, 30));
        for (int day : Check.noDays()) Check.refused(x, Check.BAD, "die(1, " + day + ")", y -> y.die(1, day));
        Check.refused(x, Check.BAD, "die(1, 19), the day ahead of being born", y -> y.die(1, 19));
        Check.due("die(1, 20), the day itself", x.die(1, 20), 1);
        Check.due("die(2, 21), the day behind", x.die(2, 21), 1);
        Check.refused(x, Check.BAD, "die(3, 3598)", y -> y.die(3, 3598));
        Check.due("die(3, 3599)", x.die(3, 3599), 1);
        Check.due("die(4, 0)", x.die(4, 0), 1);
        Check.sentence(5, "STATE: they did already.");
        Check.refused(x, Check.STATE, "die(1, 20) again", y -> y.die(1, 20));
        Check.refused(x, Check.STATE, "die(1, 30) again", y -> y.die(1, 30));
        Check.refused(x, Check.STATE, "die(4, 0) again", y -> y.die(4, 0));
        Check.refused(x, Check.BAD, "die(1, 19) again, the first named", y -> y.die(1, 19));
    }

    /** The last DAY of QUARTER 1 is 179. */
    private static void alive() {
        Check.sentence(5, "and may DIE on a DAY (they are ALIVE on both, and between).");
        int[][] lives = {{179, -1, 1}, {180, -1, 0}, {0, 179, 1}, {0, 178, 0}, {179, 179, 1}, {178, 178, 0}, {180, 180, 0},
            {178, 180, 1}, {0, 3599, 1}};
        for (int[] life : lives) {
            FallenHouses x = new FallenHouses();
            x.person(life[0]);
            x.house(0, 0, 0, 1);
            x.right(4, 0, 0, 7, 0, 3599, 0, -1);
            if (life[1] >= 0) x.die(0, life[1]);
            Check.due("alive on 179, born " + life[0] + ", dead " + life[1], x.pension(0, 1), 7 * life[2]);
        }
    }

    private static void house() {
        Check.sentence(6, "A HOUSE: its number.");
        FallenHouses x = new FallenHouses();
        Check.due("house(0, 0, 0, 1)", x.house(0, 0, 0, 1), 0);
        Check.due("house(9, 3, 9999, 9)", x.house(9, 3, 9999, 9), 1);
        int[][] of = {{0, 0, 0, 1}, {9, 3, 9999, 9}};
        for (int h = 0; h < 2; h++) {
            for (int what = 0; what < 4; what++) Check.due("houseOf(" + h + ", " + what + ")", x.houseOf(h, what), of[h][what]);
        }
        Check.sentence(6, "BAD: a number isn't as told; FULL.");
        for (int n : Check.outside(0, 9)) Check.refused(x, Check.BAD, "place " + n, y -> y.house(n, 0, 0, 1));
        for (int n : Check.outside(0, 3)) Check.refused(x, Check.BAD, "order " + n, y -> y.house(0, n, 0, 1));
        for (int n : Check.outside(0, 9999)) Check.refused(x, Check.BAD, "coin " + n, y -> y.house(0, 0, n, 1));
        for (int n : Check.outside(1, 9)) Check.refused(x, Check.BAD, "fear " + n, y -> y.house(0, 0, 0, n));
        Check.sentence(6, "HOUSES, 8 at most, numbered as they come, each at a PLACE, of an ORDER (0 to 3), with COIN (0 to 9999), and "
            + "an ABBOT with a FEAR (1 to 9).");
        for (int i = 2; i < 8; i++) Check.due("house " + i, x.house(i, i % 4, 1000 * i, i), i);
        Check.refused(x, Check.FULL, "the ninth", y -> y.house(0, 0, 0, 1));
        Check.refused(x, Check.BAD, "the ninth, at no place", y -> y.house(10, 0, 0, 1));
        Check.refused(x, Check.BAD, "the ninth, of no order", y -> y.house(0, 4, 0, 1));
        Check.refused(x, Check.BAD, "the ninth, with too much coin", y -> y.house(0, 0, 10000, 1));
        Check.refused(x, Check.BAD, "the ninth, without fear", y -> y.house(0, 0, 0, 0));
        x.fall(0);
        Check.refused(x, Check.FULL, "a fallen house takes its room", y -> y.house(0, 0, 0, 1));
        Check.due("many(2)", x.many(2), 8);
    }

    private static void fall() {
        Check.sentence(7, "A HOUSE FALLS TODAY: what it HAD.");
        FallenHouses x = new FallenHouses();
        for (int i = 0; i < 8; i++) x.house(0, 0, 9992 + i, 9);
        Check.due("fall(0) on day 0", x.fall(0), 9992);
        Check.due("houseOf(0, 4)", x.houseOf(0, 4), 0);
        Check.until(x, 3599);
        Check.due("fall(7) on day 3599", x.fall(7), 9999);
        Check.due("houseOf(7, 4)", x.houseOf(7, 4), 3599);
        Check.due("many(13)", x.many(13), 2);
        Check.sentence(7, "BAD: there is no such HOUSE;");
        for (int h : Check.outside(0, 7)) Check.refused(x, Check.BAD, "fall(" + h + ")", y -> y.fall(h));
        Check.sentence(7, "STATE: it did already.");
        Check.refused(x, Check.STATE, "fall(7) again", y -> y.fall(7));
        Check.refused(x, Check.STATE, "fall(0) again", y -> y.fall(0));
        Check.sentence(7, "A HOUSE FALLS on a DAY, once.");
        Check.due("houseOf(0, 4)", x.houseOf(0, 4), 0);
        Check.due("fall(1)", x.fall(1), 9993);
    }

    private static void had() {
        Check.sentence(7, "What a HOUSE HAD: COIN, and WORTH of its THINGS that were there (or PAWNED), all as it FELL.");
        FallenHouses x = new FallenHouses();
        x.person(0);
        x.house(0, 0, 1000, 1);
        x.house(0, 0, 0, 9);
        int[][] things = {{0, 1}, {1, 2}, {3, 4}, {2, 8}, {2, 16}, {0, 32}, {0, 64}};
        for (int[] t : things) x.thing(0, t[0], t[1]);
        x.thing(1, 0, 99);
        // 2 is melted, 3 rots, 4 is hidden, 5 is pawned, 6 is sold; 0 and 1 are there (1 is hidden later, alone)
        x.strip(0);
        x.sell(6);
        x.right(6, 0, 0, 1, 0, 0, 5, -1);
        x.days(9);
        x.fall(1);
        x.days(1);
        int[] are = {0, 0, 3, 5, 1, 2, 4};
        for (int i = 0; i < are.length; i++) Check.due("thingOf(" + i + ", 3)", x.thingOf(i, 3), are[i]);
        Check.due("fall(0)", x.fall(0), 1064 + 1 + 2 + 32);
        x.sell(0);
        Check.due("houseOf(0, 2), the coin goes on", x.houseOf(0, 2), 1065);
        Check.due("houseOf(0, 20), what it had stays", x.houseOf(0, 20), 1099);
        FallenHouses y = new FallenHouses();
        y.house(0, 0, 0, 9);
        Check.due("fall(0), it had nothing", y.fall(0), 0);
        Check.due("houseOf(0, 20)", y.houseOf(0, 20), 0);
    }

    private static void houseOf() {
        Check.sentence(8, "Of a HOUSE: what = 0 PLACE, 1 ORDER, 2 COIN, 3 FEAR, 4 the DAY on which it FELL (NONE), 5 that on which it was "
            + "STRIPPED (NONE), 6 DUE, 7 of how many the ABBOT has HEARD TODAY (0, if it has FALLEN), 8 THE ROLL (0 at first), "
            + "9 the DAY of it (NONE), 10 + s how many of its THINGS are s (0 to 5), 20 what it HAD (NONE: it hasn't FALLEN).");
        FallenHouses x = new FallenHouses();
        x.person(0);
        x.house(3, 2, 77, 1);
        x.house(3, 0, 0, 9);
        int[] first = {3, 2, 77, 1, Check.NONE, Check.NONE, 3599, 0, 0, Check.NONE, 0, 0, 0, 0, 0, 0};
        for (int what = 0; what < first.length; what++) Check.due("houseOf(0, " + what + ")", x.houseOf(0, what), first[what]);
        Check.due("houseOf(0, 20)", x.houseOf(0, 20), Check.NONE);
        for (int[] t : new int[][] {{0, 1}, {0, 1}, {0, 1}, {1, 9}, {2, 8}, {0, 2}, {0, 2}, {0, 2}, {3, 4}, {3, 4}, {0, 3}, {2, 1}}) {
            x.thing(0, t[0], t[1]);
        }
        x.thing(1, 0, 5);
        for (int i = 5; i < 8; i++) x.sell(i);
        x.right(6, 0, 0, 1, 0, 0, 10, -1);
        x.right(6, 0, 0, 1, 0, 0, 2, -1);
        x.days(20);
        x.due(0, 123);
        x.value(0, 6);
        x.strip(0);
        x.days(8);
        x.fall(1);
        x.days(2);
        // three bells there less the pawned one; plate and a book hidden, the other book rotted; melted lead; three bells sold
        int[] then = {3, 2, 83, 1, Check.NONE, 20, 123, 1, 3, 20, 2, 2, 2, 2, 3, 1};
        for (int what = 0; what < then.length; what++) Check.due("houseOf(0, " + what + ")", x.houseOf(0, what), then[what]);
        x.fall(0);
        Check.due("houseOf(0, 4)", x.houseOf(0, 4), 30);
        Check.due("houseOf(0, 20)", x.houseOf(0, 20), 83 + 2 + 4);
    }

    private static void heardToday() {
        Check.sentence(8, "7 of how many the ABBOT has HEARD TODAY (0, if it has FALLEN)");
        FallenHouses x = new FallenHouses();
        x.house(0, 0, 0, 9);
        x.house(0, 0, 0, 9);
        x.house(1, 0, 0, 9);
        x.road(0, 1, 20);
        x.fall(1);
        Check.due("houseOf(0, 7), fallen today at the same place", x.houseOf(0, 7), 1);
        x.fall(2);
        x.days(19);
        Check.due("houseOf(0, 7), 19 days by a road of 20", x.houseOf(0, 7), 1);
        x.days(1);
        Check.due("houseOf(0, 7), 20 days by a road of 20", x.houseOf(0, 7), 2);
        Check.due("houseOf(1, 7), fallen", x.houseOf(1, 7), 0);
        x.fall(0);
        Check.due("houseOf(0, 7), fallen", x.houseOf(0, 7), 0);
    }

    private static void houseOfRefused() {
        Check.sentence(8, "BAD: there is none such, another what.");
        FallenHouses x = new FallenHouses();
        x.house(0, 0, 0, 9);
        x.house(0, 0, 0, 9);
        for (int h : Check.outside(0, 1)) {
            for (int what : new int[] {0, 7, 10, 20}) Check.refused(x, Check.BAD, "houseOf(" + h + ", " + what + ")", y -> y.houseOf(h, what));
        }
        for (int what : new int[] {-1, 16, 17, 18, 19, 21, Integer.MIN_VALUE, Integer.MAX_VALUE}) {
            Check.refused(x, Check.BAD, "houseOf(1, " + what + ")", y -> y.houseOf(1, what));
        }
    }
}
