/** Promises 27 to 32, sentence by sentence: each bound with what is on it and what is behind it. */
final class LeasesEdgesTest {
    public static void main(String[] args) {
        witness();
        sealOf();
        seal();
        told();
        stay();
        shown();
        deadWitness();
        newSeal();
        farWitnesses();
        farWitnessesOfThree();
        placesBetween();
        doubt();
        theFirst();
        shownRefused();
        Check.finish();
    }

    /** RIGHT 0 is a lease DATED 100, RIGHT 1 a lease DATED 200, then one of each other KIND; five PERSONS. */
    private static FallenHouses leases() {
        FallenHouses x = new FallenHouses();
        for (int i = 0; i < 5; i++) x.person(0);
        x.house(0, 0, 0, 9);
        x.thing(0, 0, 1);
        x.right(2, 0, 0, 1, 0, 0, 100, -1);
        x.right(2, 0, 0, 1, 0, 0, 200, -1);
        for (int kind : new int[] {0, 1, 3, 4, 5, 6, 7}) x.right(kind, 0, 0, 1, 0, 0, 0, -1);
        return x;
    }

    private static void witness() {
        Check.sentence(27, "A WITNESS of a lease (one of them twice, too): how many it has.");
        FallenHouses x = leases();
        Check.due("witness(0, 4)", x.witness(0, 4), 1);
        Check.due("witness(1, 4), of another lease", x.witness(1, 4), 1);
        Check.due("witness(0, 4), twice", x.witness(0, 4), 2);
        Check.due("witness(0, 0), who holds it", x.witness(0, 0), 3);
        Check.sentence(27, "BAD: there is no such RIGHT, PERSON; STATE: it is no lease; FULL.");
        for (int r : Check.outside(0, 8)) Check.refused(x, Check.BAD, "witness(" + r + ", 0)", y -> y.witness(r, 0));
        for (int p : Check.outside(0, 4)) {
            Check.refused(x, Check.BAD, "witness(1, " + p + ")", y -> y.witness(1, p));
            Check.refused(x, Check.BAD, "witness(0, " + p + "), full, too", y -> y.witness(0, p));
            Check.refused(x, Check.BAD, "witness(2, " + p + "), no lease, too", y -> y.witness(2, p));
        }
        for (int r = 2; r < 9; r++) {
            int right = r;
            Check.refused(x, Check.STATE, "witness(" + r + ", 0)", y -> y.witness(right, 0));
        }
        Check.sentence(27, "WITNESSES (3 at most, PERSONS), a SEAL (0 to 3, or none).");
        Check.refused(x, Check.FULL, "witness(0, 1), the fourth", y -> y.witness(0, 1));
        Check.refused(x, Check.FULL, "witness(0, 4), who is one", y -> y.witness(0, 4));
        Check.due("witness(1, 1)", x.witness(1, 1), 2);
        Check.due("witness(1, 2)", x.witness(1, 2), 3);
        Check.refused(x, Check.FULL, "witness(1, 3)", y -> y.witness(1, 3));
    }

    private static void sealOf() {
        Check.sentence(28, "The SEAL of a lease (-1: none): what it was (NONE).");
        FallenHouses x = leases();
        Check.due("sealOf(0, -1)", x.sealOf(0, -1), Check.NONE);
        Check.due("sealOf(0, 0)", x.sealOf(0, 0), Check.NONE);
        Check.due("sealOf(0, 3)", x.sealOf(0, 3), 0);
        Check.due("sealOf(1, 2), of another lease", x.sealOf(1, 2), Check.NONE);
        Check.due("sealOf(0, 3)", x.sealOf(0, 3), 3);
        Check.due("sealOf(0, -1)", x.sealOf(0, -1), 3);
        Check.due("sealOf(0, 1)", x.sealOf(0, 1), Check.NONE);
        Check.due("sealOf(1, 0)", x.sealOf(1, 0), 2);
        Check.sentence(28, "BAD: there is no such RIGHT, SEAL; STATE: it is no lease.");
        for (int r : Check.outside(0, 8)) Check.refused(x, Check.BAD, "sealOf(" + r + ", 0)", y -> y.sealOf(r, 0));
        for (int s : Check.outside(-1, 3)) {
            Check.refused(x, Check.BAD, "sealOf(0, " + s + ")", y -> y.sealOf(0, s));
            Check.refused(x, Check.BAD, "sealOf(2, " + s + "), no lease, too", y -> y.sealOf(2, s));
        }
        Check.refused(x, Check.BAD, "sealOf(0, -3)", y -> y.sealOf(0, -3));
        for (int r = 2; r < 9; r++) {
            int right = r;
            Check.refused(x, Check.STATE, "sealOf(" + r + ", 0)", y -> y.sealOf(right, 0));
            Check.refused(x, Check.STATE, "sealOf(" + r + ", -1)", y -> y.sealOf(right, -1));
        }
        Check.due("sealOf(0, -1)", x.sealOf(0, -1), 1);
    }

    private static void seal() {
        Check.sentence(29, "A SEAL is in use from a DAY on: from which it was.");
        FallenHouses x = leases();
        Check.due("seal(3, 3599)", x.seal(3, 3599), 0);
        Check.due("seal(3, 0)", x.seal(3, 0), 3599);
        Check.due("seal(3, 7)", x.seal(3, 7), 0);
        Check.due("seal(3, 7)", x.seal(3, 7), 7);
        Check.sentence(29, "SEALS are in use from a DAY on (0 at first).");
        for (int s = 0; s < 3; s++) Check.due("seal(" + s + ", 9)", x.seal(s, 9), 0);
        Check.sentence(29, "BAD: there is no such SEAL, DAY.");
        for (int s : Check.outside(0, 3)) Check.refused(x, Check.BAD, "seal(" + s + ", 5)", y -> y.seal(s, 5));
        for (int day : Check.noDays()) Check.refused(x, Check.BAD, "seal(0, " + day + ")", y -> y.seal(0, day));
        Check.due("seal(0, 1)", x.seal(0, 1), 9);
    }

    private static void told() {
        Check.sentence(30, "A rent of a lease is TOLD on a DAY: the least DAY told so far.");
        FallenHouses x = leases();
        Check.due("told(0, 3599)", x.told(0, 3599), 3599);
        Check.due("told(0, 40)", x.told(0, 40), 40);
        Check.due("told(0, 41)", x.told(0, 41), 40);
        Check.due("told(0, 40)", x.told(0, 40), 40);
        Check.due("told(1, 50), of another lease", x.told(1, 50), 50);
        Check.due("told(0, 39)", x.told(0, 39), 39);
        Check.due("told(0, 0)", x.told(0, 0), 0);
        Check.due("told(0, 3599)", x.told(0, 3599), 0);
        Check.sentence(30, "BAD: there is no such RIGHT, DAY; STATE: it is no lease.");
        for (int r : Check.outside(0, 8)) Check.refused(x, Check.BAD, "told(" + r + ", 5)", y -> y.told(r, 5));
        for (int day : Check.noDays()) {
            Check.refused(x, Check.BAD, "told(1, " + day + ")", y -> y.told(1, day));
            Check.refused(x, Check.BAD, "told(2, " + day + "), no lease, too", y -> y.told(2, day));
        }
        for (int r = 2; r < 9; r++) {
            int right = r;
            Check.refused(x, Check.STATE, "told(" + r + ", 5)", y -> y.told(right, 5));
        }
        Check.due("told(1, 60)", x.told(1, 60), 50);
    }

    private static void stay() {
        Check.sentence(31, "A STAY: how many there are.");
        FallenHouses x = leases();
        Check.due("stay(0, 0, 0)", x.stay(0, 0, 0), 1);
        Check.due("stay(0, 0, 0), the same", x.stay(0, 0, 0), 2);
        Check.due("stay(4, 9, 3599)", x.stay(4, 9, 3599), 3);
        Check.sentence(31, "BAD: there is no such PERSON, PLACE, DAY; FULL.");
        for (int p : Check.outside(0, 4)) Check.refused(x, Check.BAD, "stay(" + p + ", 0, 0)", y -> y.stay(p, 0, 0));
        for (int p : Check.outside(0, 9)) Check.refused(x, Check.BAD, "stay(0, " + p + ", 0)", y -> y.stay(0, p, 0));
        for (int day : Check.noDays()) Check.refused(x, Check.BAD, "stay(0, 0, " + day + ")", y -> y.stay(0, 0, day));
        Check.sentence(31, "STAYS, 24 at most: a PERSON was at a PLACE on a DAY.");
        for (int i = 4; i <= 24; i++) Check.due("stay " + i, x.stay(i % 5, i % 10, i), i);
        Check.refused(x, Check.FULL, "the twenty-fifth", y -> y.stay(0, 0, 0));
        Check.refused(x, Check.BAD, "the twenty-fifth, of nobody", y -> y.stay(5, 0, 0));
        Check.refused(x, Check.BAD, "the twenty-fifth, nowhere", y -> y.stay(0, 10, 0));
        Check.refused(x, Check.BAD, "the twenty-fifth, on no day", y -> y.stay(0, 0, 3600));
        Check.due("many(6)", x.many(6), 24);
        // the last one counts as the first does
        x = leases();
        x.witness(0, 0);
        x.witness(0, 1);
        x.stay(0, 0, 100);
        for (int i = 0; i < 22; i++) x.stay(2, 5, 5);
        Check.due("shown(0)", x.shown(0), 0);
        x.stay(1, 1, 100);
        Check.due("shown(0), by the last stay", x.shown(0), 3);
    }

    private static void shown() {
        Check.sentence(32, "0 nothing.");
        FallenHouses x = leases();
        Check.due("shown(0), nothing is there", x.shown(0), 0);
        x.witness(0, 1);
        x.sealOf(0, 1);
        x.told(0, 100);
        x.stay(1, 3, 100);
        Check.due("shown(0), all is right", x.shown(0), 0);
        Check.sentence(32, "SHOWN of a lease, what tells that it was not written as it is DATED:");
        x.seal(1, 150);
        x.sealOf(1, 1);
        Check.due("shown(0), dated 100", x.shown(0), 2);
        Check.due("shown(1), dated 200", x.shown(1), 0);
        Check.until(x, 300);
        x.fall(0);
        Check.due("shown(0), fallen and gone", x.shown(0), 2);
    }

    private static void deadWitness() {
        Check.sentence(32, "1 a WITNESS was not ALIVE on the DAY DATED;");
        int[][] lives = {{100, -1, 0}, {101, -1, 1}, {0, 100, 0}, {0, 99, 1}, {100, 100, 0}, {0, 101, 0}, {102, 102, 1}, {98, 98, 1}};
        for (int place = 0; place < 3; place++) {
            for (int[] life : lives) {
                FallenHouses x = leases();
                x.person(life[0]);
                if (life[1] >= 0) x.die(5, life[1]);
                for (int i = 0; i < 3; i++) x.witness(0, i == place ? 5 : i);
                Check.due("witness " + place + ", born " + life[0] + ", dead " + life[1], x.shown(0), life[2]);
            }
        }
        FallenHouses x = leases();
        x.die(0, 0);
        Check.due("who holds it was dead", x.shown(0), 0);
        x.witness(0, 0);
        Check.due("and is its witness", x.shown(0), 1);
        Check.due("of another lease", x.shown(1), 0);
    }

    private static void newSeal() {
        Check.sentence(32, "2 its SEAL was not in use yet;");
        for (int s = 0; s < 4; s++) {
            FallenHouses x = leases();
            x.sealOf(0, s);
            Check.due("seal " + s + " from 0 on", x.shown(0), 0);
            x.seal(s, 100);
            Check.due("seal " + s + " from that day on", x.shown(0), 0);
            x.seal(s, 101);
            Check.due("seal " + s + " from the day behind on", x.shown(0), 2);
            x.seal(s, 3599);
            Check.due("seal " + s + " from the last day on", x.shown(0), 2);
            x.sealOf(0, (s + 1) % 4);
            Check.due("another seal", x.shown(0), 0);
            x.sealOf(0, s);
            x.sealOf(0, -1);
            Check.due("no seal", x.shown(0), 0);
        }
    }

    /** Two WITNESSES, each with a STAY: PLACE, DAY. */
    private static void apart(int dayOfOne, int placeOfOther, int dayOfOther, int due) {
        FallenHouses x = leases();
        x.witness(0, 1);
        x.witness(0, 2);
        x.stay(1, 0, dayOfOne);
        x.stay(2, placeOfOther, dayOfOther);
        Check.due("one at 0 on " + dayOfOne + ", the other at " + placeOfOther + " on " + dayOfOther, x.shown(0), due);
    }

    private static void farWitnesses() {
        Check.sentence(32, "3 two WITNESSES were at PLACES on DAYS (STAYS) from which both couldn't be at one PLACE on that DAY:");
        // all roads are 5
        apart(100, 0, 100, 0);
        apart(100, 1, 100, 3);
        apart(100, 1, 104, 3);
        apart(100, 1, 105, 0);
        apart(100, 1, 96, 3);
        apart(100, 1, 95, 0);
        apart(104, 1, 100, 3);
        apart(105, 1, 100, 0);
        apart(96, 1, 100, 3);
        apart(95, 1, 100, 0);
        apart(104, 1, 96, 3);
        apart(96, 1, 104, 3);
        apart(95, 1, 104, 0);
        apart(0, 1, 3599, 0);
        FallenHouses x = leases();
        x.witness(0, 1);
        x.stay(1, 0, 100);
        x.stay(2, 1, 100);
        Check.due("only one is a witness", x.shown(0), 0);
        x.witness(1, 2);
        Check.due("the other of another lease", x.shown(0), 0);
        x.witness(0, 2);
        Check.due("both", x.shown(0), 3);
        Check.due("the other lease, on day 200", x.shown(1), 0);
        FallenHouses y = leases();
        y.witness(0, 1);
        y.stay(1, 0, 100);
        y.stay(1, 1, 100);
        Check.due("one alone, at two places at once", y.shown(0), 0);
        y.stay(0, 3, 100);
        y.stay(3, 4, 100);
        Check.due("beside those who are no witnesses", y.shown(0), 0);
        y = leases();
        for (int i = 1; i < 4; i++) y.witness(0, i);
        for (int i = 1; i < 4; i++) y.stay(i, 2, 100);
        y.stay(0, 3, 100);
        y.stay(4, 5, 100);
        Check.due("three at one place, others elsewhere", y.shown(0), 0);
        y = leases();
        y.witness(0, 1);
        y.witness(0, 1);
        y.stay(1, 0, 100);
        Check.due("one who is a witness twice", y.shown(0), 0);
        y.stay(1, 1, 100);
        Check.due("one who is a witness twice, at two places at once", y.shown(0), 3);
    }

    private static void farWitnessesOfThree() {
        Check.sentence(32, "Each of a WITNESS counts.)");
        for (int one = 0; one < 3; one++) {
            for (int other = 0; other < 3; other++) {
                if (one == other) continue;
                FallenHouses x = leases();
                for (int i = 0; i < 3; i++) x.witness(0, 1 + i);
                x.stay(1 + one, 0, 100);
                x.stay(1 + other, 1, 90);
                Check.due("witnesses " + one + " and " + other + " could meet", x.shown(0), 0);
                x.stay(1 + other, 1, 101);
                Check.due("by the second stay they couldn't", x.shown(0), 3);
                FallenHouses y = leases();
                for (int i = 0; i < 3; i++) y.witness(0, 1 + i);
                y.stay(1 + one, 0, 94);
                y.stay(1 + other, 1, 101);
                Check.due("witnesses " + one + " and " + other + " could meet", y.shown(0), 0);
                y.stay(1 + one, 0, 97);
                Check.due("by the second stay of the other they couldn't", y.shown(0), 3);
            }
        }
    }

    private static void placesBetween() {
        Check.sentence(32, "there is no PLACE to which the ROADS from both are not longer than the DAYS between;");
        for (int between = 2; between < 10; between++) {
            FallenHouses x = leases();
            x.witness(0, 1);
            x.witness(0, 2);
            x.stay(1, 0, 98);
            x.stay(2, 1, 103);
            Check.due("no road is short enough", x.shown(0), 3);
            x.road(0, between, 2);
            Check.due("one can be at " + between, x.shown(0), 3);
            x.road(1, between, 4);
            Check.due("the other comes a day too late", x.shown(0), 3);
            x.road(between, 1, 3);
            Check.due("both can", x.shown(0), 0);
            x.road(between, 0, 3);
            Check.due("now one comes too late", x.shown(0), 3);
            x.road(0, 1, 3);
            Check.due("one stays where it is, the other comes there", x.shown(0), 0);
        }
    }

    private static void doubt() {
        Check.sentence(32, "4 the first rent that was TOLD of it was TOLD on a DAY more than 180 behind the DAY DATED (that is no more than DOUBT);");
        int[][] cases = {{279, 0}, {280, 0}, {281, 4}, {3599, 4}, {100, 0}, {99, 0}, {0, 0}};
        for (int[] c : cases) {
            FallenHouses x = leases();
            x.told(0, c[0]);
            Check.due("told on " + c[0], x.shown(0), c[1]);
            x.told(0, 3599);
            Check.due("told on " + c[0] + " and later", x.shown(0), c[1]);
            x.told(0, 280);
            Check.due("told on 280, too", x.shown(0), 0);
        }
        FallenHouses x = leases();
        x.told(1, 381);
        Check.due("dated 200, told on 381", x.shown(1), 4);
        Check.due("of another lease", x.shown(0), 0);
    }

    private static void theFirst() {
        Check.sentence(32, "(The first.");
        FallenHouses x = leases();
        x.witness(0, 1);
        x.witness(0, 2);
        x.told(0, 500);
        Check.due("4 alone", x.shown(0), 4);
        x.stay(1, 0, 100);
        x.stay(2, 1, 100);
        Check.due("3 and 4", x.shown(0), 3);
        x.sealOf(0, 0);
        x.seal(0, 101);
        Check.due("2, 3 and 4", x.shown(0), 2);
        x.die(2, 99);
        Check.due("all four", x.shown(0), 1);
        FallenHouses y = leases();
        y.told(0, 500);
        y.sealOf(0, 0);
        y.seal(0, 101);
        Check.due("2 and 4", y.shown(0), 2);
        y.die(4, 3);
        y.witness(0, 4);
        Check.due("1, 2 and 4", y.shown(0), 1);
    }

    private static void shownRefused() {
        Check.sentence(32, "SHOWN of a lease. BAD: there is no such RIGHT; STATE: it is no lease.");
        FallenHouses x = leases();
        for (int r : Check.outside(0, 8)) Check.refused(x, Check.BAD, "shown(" + r + ")", y -> y.shown(r));
        for (int r = 2; r < 9; r++) {
            int right = r;
            Check.refused(x, Check.STATE, "shown(" + r + ")", y -> y.shown(right));
        }
    }
}
