/** Promises 27 to 32: witness, sealOf, seal, told, stay, shown. */
final class LeasesTest {
    public static void main(String[] args) {
        witness();
        seals();
        told();
        stay();
        shownFirst();
        shownSecond();
        shownThird();
        shownFourth();
        refused();
        Check.finish();
    }

    /** RIGHT 0 is a lease DATED 100, RIGHT 1 a rent; five PERSONS. */
    private static FallenHouses lease() {
        FallenHouses x = new FallenHouses();
        for (int i = 0; i < 5; i++) x.person(0);
        x.house(0, 0, 0, 1);
        x.right(2, 0, 0, 1, 0, 0, 100, -1);
        x.right(1, 0, 0, 1, 0, 0, 0, -1);
        return x;
    }

    private static void witness() {
        FallenHouses x = lease();
        Check.due("witness(2, 0)", x.witness(2, 0), Check.BAD);
        Check.due("witness(-1, 0)", x.witness(-1, 0), Check.BAD);
        Check.due("witness(0, 5)", x.witness(0, 5), Check.BAD);
        Check.due("witness(0, -1)", x.witness(0, -1), Check.BAD);
        Check.due("witness(1, 0)", x.witness(1, 0), Check.STATE);
        Check.due("witness(0, 4)", x.witness(0, 4), 1);
        Check.due("witness(0, 4)", x.witness(0, 4), 2);
        Check.due("witness(0, 3)", x.witness(0, 3), 3);
        Check.due("witness(0, 2)", x.witness(0, 2), Check.FULL);
        Check.due("witness(0, 5)", x.witness(0, 5), Check.BAD);
    }

    private static void seals() {
        FallenHouses x = lease();
        Check.due("sealOf(2, 0)", x.sealOf(2, 0), Check.BAD);
        Check.due("sealOf(-1, 0)", x.sealOf(-1, 0), Check.BAD);
        Check.due("sealOf(0, 4)", x.sealOf(0, 4), Check.BAD);
        Check.due("sealOf(0, -2)", x.sealOf(0, -2), Check.BAD);
        Check.due("sealOf(1, 0)", x.sealOf(1, 0), Check.STATE);
        Check.due("sealOf(0, -1)", x.sealOf(0, -1), Check.NONE);
        Check.due("sealOf(0, 3)", x.sealOf(0, 3), Check.NONE);
        Check.due("sealOf(0, 0)", x.sealOf(0, 0), 3);
        Check.due("sealOf(0, -1)", x.sealOf(0, -1), 0);
        Check.due("sealOf(0, 1)", x.sealOf(0, 1), Check.NONE);
        Check.due("seal(4, 0)", x.seal(4, 0), Check.BAD);
        Check.due("seal(-1, 0)", x.seal(-1, 0), Check.BAD);
        Check.due("seal(0, 3600)", x.seal(0, 3600), Check.BAD);
        Check.due("seal(0, -1)", x.seal(0, -1), Check.BAD);
        Check.due("seal(0, 3599)", x.seal(0, 3599), 0);
        Check.due("seal(0, 5)", x.seal(0, 5), 3599);
        Check.due("seal(3, 7)", x.seal(3, 7), 0);
        Check.due("seal(0, 1)", x.seal(0, 1), 5);
    }

    private static void told() {
        FallenHouses x = lease();
        Check.due("told(2, 0)", x.told(2, 0), Check.BAD);
        Check.due("told(-1, 0)", x.told(-1, 0), Check.BAD);
        Check.due("told(0, -1)", x.told(0, -1), Check.BAD);
        Check.due("told(0, 3600)", x.told(0, 3600), Check.BAD);
        Check.due("told(1, 0)", x.told(1, 0), Check.STATE);
        Check.due("told(0, 50)", x.told(0, 50), 50);
        Check.due("told(0, 70)", x.told(0, 70), 50);
        Check.due("told(0, 0)", x.told(0, 0), 0);
        Check.due("told(0, 3599)", x.told(0, 3599), 0);
    }

    private static void stay() {
        FallenHouses x = lease();
        Check.due("stay(5, 0, 0)", x.stay(5, 0, 0), Check.BAD);
        Check.due("stay(-1, 0, 0)", x.stay(-1, 0, 0), Check.BAD);
        Check.due("stay(0, 10, 0)", x.stay(0, 10, 0), Check.BAD);
        Check.due("stay(0, -1, 0)", x.stay(0, -1, 0), Check.BAD);
        Check.due("stay(0, 0, 3600)", x.stay(0, 0, 3600), Check.BAD);
        Check.due("stay(0, 0, -1)", x.stay(0, 0, -1), Check.BAD);
        for (int i = 1; i <= 24; i++) Check.due("stay(4, 9, 3599)", x.stay(4, 9, 3599), i);
        Check.due("stay(0, 0, 0)", x.stay(0, 0, 0), Check.FULL);
        Check.due("stay(0, 0, -1)", x.stay(0, 0, -1), Check.BAD);
        Check.due("many(6)", x.many(6), 24);
    }

    private static void shownFirst() {
        FallenHouses x = lease();
        x.witness(0, 1);
        x.witness(0, 2);
        x.die(1, 100);
        Check.due("dead on the day itself", x.shown(0), 0);
        x.die(2, 99);
        Check.due("dead the day ahead", x.shown(0), 1);
        x = lease();
        x.witness(0, 3);
        x.die(3, 0);
        Check.due("the first one dead", x.shown(0), 1);
        x = lease();
        x.person(100);
        x.person(101);
        x.witness(0, 5);
        Check.due("born on the day itself", x.shown(0), 0);
        x.witness(0, 6);
        x.sealOf(0, 0);
        x.seal(0, 200);
        Check.due("born the day behind, ahead of the seal", x.shown(0), 1);
    }

    private static void shownSecond() {
        FallenHouses x = lease();
        x.seal(1, 101);
        x.seal(2, 100);
        Check.due("no seal", x.shown(0), 0);
        x.sealOf(0, 1);
        Check.due("a seal that is too new", x.shown(0), 2);
        x.sealOf(0, 2);
        Check.due("a seal from that day on", x.shown(0), 0);
        x.sealOf(0, 1);
        x.witness(0, 1);
        x.witness(0, 2);
        x.stay(1, 0, 100);
        x.stay(2, 1, 100);
        Check.due("the seal ahead of the witnesses", x.shown(0), 2);
        x.sealOf(0, -1);
        Check.due("the witnesses then", x.shown(0), 3);
    }

    private static void shownThird() {
        FallenHouses x = lease();
        x.witness(0, 1);
        x.witness(0, 2);
        x.stay(1, 0, 98);
        x.stay(1, 0, 3);
        Check.due("one only", x.shown(0), 0);
        x.stay(3, 9, 100);
        Check.due("no witness", x.shown(0), 0);
        x.stay(2, 1, 103);
        Check.due("five days between, none can go three of them", x.shown(0), 3);
        x.road(0, 7, 2);
        Check.due("one reaches 7", x.shown(0), 3);
        x.road(1, 7, 4);
        Check.due("the other is one day late", x.shown(0), 3);
        x.road(7, 1, 3);
        Check.due("both meet at 7", x.shown(0), 0);
        x.witness(0, 3);
        Check.due("the third was elsewhere on the very day", x.shown(0), 3);
        x = lease();
        x.witness(0, 4);
        x.witness(0, 1);
        x.witness(0, 2);
        x.stay(2, 3, 102);
        x.stay(3, 5, 100);
        x.stay(1, 4, 98);
        x.road(3, 0, 2);
        x.road(4, 0, 2);
        Check.due("the second and the third meet at 0", x.shown(0), 0);
        x.road(4, 0, 3);
        Check.due("they don't", x.shown(0), 3);
        x = lease();
        x.witness(0, 1);
        x.witness(0, 1);
        x.stay(1, 4, 100);
        x.stay(1, 5, 104);
        Check.due("one who is a witness twice, and was at two places", x.shown(0), 3);
        x = lease();
        x.witness(0, 1);
        x.witness(0, 2);
        x.stay(1, 4, 100);
        x.stay(2, 4, 100);
        Check.due("both at one place on the day", x.shown(0), 0);
        x.stay(2, 5, 95);
        Check.due("five days ahead, at five days", x.shown(0), 0);
        x.stay(2, 5, 104);
        Check.due("each stay counts", x.shown(0), 3);
    }

    private static void shownFourth() {
        FallenHouses x = lease();
        x.told(0, 281);
        Check.due("181 days behind", x.shown(0), 4);
        x.witness(0, 1);
        x.witness(0, 2);
        x.stay(1, 0, 100);
        x.stay(2, 1, 100);
        Check.due("the witnesses ahead of doubt", x.shown(0), 3);
        x.road(0, 1, 1);
        Check.due("still apart", x.shown(0), 3);
        x = lease();
        x.told(0, 280);
        Check.due("180 days behind", x.shown(0), 0);
        x.told(0, 3599);
        Check.due("only the first counts", x.shown(0), 0);
    }

    private static void refused() {
        FallenHouses x = lease();
        Check.due("shown(2)", x.shown(2), Check.BAD);
        Check.due("shown(-1)", x.shown(-1), Check.BAD);
        Check.due("shown(1)", x.shown(1), Check.STATE);
    }
}
