import java.util.ArrayList;
import java.util.List;

/** A land with something of everything, and all that can be asked of one without changing it. */
final class Worlds {
    private Worlds() {
    }

    static FallenHouses full() {
        FallenHouses x = new FallenHouses();
        x.days(5);
        x.road(0, 1, 7);
        for (int i = 0; i < 3; i++) x.person(i);
        x.die(1, 400);
        for (int i = 0; i < 4; i++) x.house(i, i % 4, 100 * i, 1 + i);
        for (int i = 0; i < 8; i++) x.thing(i % 3, i % 4, 10 + i);
        Check.read(x, 0, "right stand if held; debt rank 2;");
        x.right(1, 0, 0, 10, 0, 900, 0, -1);
        x.right(2, 1, 1, 20, 0, 900, 4, 0);
        x.right(5, 2, 2, 30, 0, 900, 0, -1);
        x.right(6, 2, 0, 40, 0, 900, 2, -1);
        x.right(7, 1, 0, 50, 0, 900, 0, -1);
        x.right(4, 0, 2, 60, 0, 3599, 0, -1);
        x.witness(1, 0);
        x.sealOf(1, 2);
        x.seal(3, 5);
        x.told(1, 9);
        x.stay(0, 3, 4);
        x.value(1, 20);
        x.due(2, 50);
        x.lot(40);
        x.lot(50);
        x.buyer(60);
        x.deed(2, 0, 1, 7, 70);
        x.fall(2);
        x.days(3);
        return x;
    }

    /** All that is kept and can be asked, one behind the other; what was asked is as it was. */
    static int[] kept(FallenHouses x) {
        List<Integer> all = new ArrayList<>();
        for (int what = 0; what <= 14; what++) {
            if (what < 10 || what > 12) all.add(x.many(what));
        }
        for (int house = 0; house < 8; house++) {
            for (int what = 0; what <= 20; what++) all.add(x.houseOf(house, what));
        }
        for (int thing = 0; thing < 24; thing++) {
            for (int what = 0; what <= 4; what++) all.add(x.thingOf(thing, what));
        }
        for (int right = 0; right < 24; right++) addRight(all, x, right);
        for (int v = 0; v < 12; v++) {
            for (int what = 0; what < 40; what++) all.add(x.version(v, what));
        }
        for (int person = 0; person < 16; person++) {
            for (int quarter = 0; quarter < 40; quarter += 3) all.add(x.pension(person, quarter));
        }
        for (int what = 0; what < 17; what++) all.add(x.sale(30, what));
        for (int what = 0; what < 9; what++) all.add(x.order(what));
        for (int field = 0; field < 6; field++) addField(all, x, field);
        addRoadsAndSeals(all, x);
        int[] numbers = new int[all.size()];
        for (int i = 0; i < numbers.length; i++) numbers[i] = all.get(i);
        return numbers;
    }

    private static void addRight(List<Integer> all, FallenHouses x, int right) {
        for (int what = 0; what <= 10; what++) all.add(x.rightOf(right, what));
        all.add(x.hangs(right));
        all.add(x.stands(right));
        all.add(x.why(right));
        all.add(x.rank(right));
        all.add(x.gets(right));
        all.add(x.shown(right));
    }

    /** These can only be asked by setting them anew: they are set back at once. */
    private static void addRoadsAndSeals(List<Integer> all, FallenHouses x) {
        for (int a = 0; a < 10; a++) {
            for (int b = 0; b < a; b++) {
                int road = x.road(a, b, 1);
                x.road(a, b, road);
                all.add(road);
            }
        }
        for (int seal = 0; seal < 4; seal++) {
            int day = x.seal(seal, 0);
            x.seal(seal, day);
            all.add(day);
        }
        for (int right = 0; right < 24; right++) {
            int seal = x.sealOf(right, -1);
            if (seal >= 0) x.sealOf(right, seal);
            all.add(seal);
        }
    }

    private static void addField(List<Integer> all, FallenHouses x, int field) {
        all.add(x.title(field, 3599, x.many(0)));
        all.add(x.quarrels(field, x.many(0)));
        for (int person = 0; person < 16; person++) all.add(x.owed(person, field, 3599, x.many(0)));
    }

    /** What isn't kept and can be asked. */
    static int[] host(FallenHouses x) {
        List<Integer> all = new ArrayList<>();
        for (int what = 10; what <= 12; what++) all.add(x.many(what));
        for (int i = 0; i < 8; i++) {
            all.add(x.row(i, 0));
            all.add(x.row(i, 1));
        }
        all.add(x.judge());
        for (int sheet = 0; sheet < 4; sheet++) {
            for (int sort = 0; sort < 5; sort++) {
                for (int i = 0; i < 40; i++) all.add(x.item(sheet, sort, i));
            }
            for (int as = 0; as < 15; as++) all.add(x.taken(sheet, as));
        }
        for (int i = 0; i < 30; i++) all.add(x.trace(i));
        int[] numbers = new int[all.size()];
        for (int i = 0; i < numbers.length; i++) numbers[i] = all.get(i);
        return numbers;
    }
}
