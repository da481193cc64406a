import java.util.Random;

/** Promises 33 to 39: value, due, ride, row, alterRow, dropRow, judge. */
final class CommissionersTest {
    public static void main(String[] args) {
        value();
        due();
        ride();
        rideRefused();
        rideTies();
        rows();
        judge();
        for (int seed = 1; seed <= 60; seed++) ridesAsTried(new Random(seed));
        Check.finish();
    }

    private static void value() {
        FallenHouses x = new FallenHouses();
        x.person(0);
        x.house(0, 0, 0, 1);
        x.house(0, 0, 0, 1);
        x.thing(1, 2, 1);
        x.thing(0, 3, 1);
        x.thing(0, 0, 1);
        x.thing(0, 1, 1);
        x.thing(0, 2, 1);
        Check.due("value(2, 0)", x.value(2, 0), Check.BAD);
        Check.due("value(-1, 0)", x.value(-1, 0), Check.BAD);
        Check.due("value(0, -1)", x.value(0, -1), Check.BAD);
        Check.due("value(0, 41)", x.value(0, 41), Check.BAD);
        int[] rolls = {0, 0, 0, 0, 2, 2, 2, 6, 6, 14, 30, 30};
        for (int hours = 0; hours < rolls.length; hours++) Check.due("value(0, " + hours + ")", x.value(0, hours), rolls[hours]);
        Check.due("value(0, 40)", x.value(0, 40), 30);
        Check.due("houseOf(0, 8)", x.houseOf(0, 8), 30);
        Check.due("houseOf(0, 9)", x.houseOf(0, 9), 0);
        Check.due("houseOf(1, 9)", x.houseOf(1, 9), Check.NONE);
        x.days(2);
        x.sell(2);
        x.right(6, 0, 0, 1, 0, 0, 3, -1);
        Check.due("houseOf(0, 8), as it was put down", x.houseOf(0, 8), 30);
        Check.due("value(0, 40), what is there", x.value(0, 40), 2 + 16);
        Check.due("houseOf(0, 9)", x.houseOf(0, 9), 2);
        Check.due("value(0, 3), none", x.value(0, 3), 0);
        Check.due("houseOf(0, 8)", x.houseOf(0, 8), 0);
        x.value(0, 40);
        x.right(2, 0, 0, 1, 0, 0, 0, -1);
        x.fall(1);
        x.days(1);
        Check.due("value(0, 40), the book is hidden", x.value(0, 40), 2);
        x.show(4, 0);
        Check.due("value(0, 40), it was showed", x.value(0, 40), 18);
        Check.due("value(0, 4), it takes its hour", x.value(0, 4), 2);
        Check.due("value(1, 40)", x.value(1, 40), Check.STATE);
        x.strip(0);
        Check.due("value(0, 1), melted lead takes none", x.value(0, 1), 16);
        x.days(10);
        Check.due("value(0, 9), what rotted is not there", x.value(0, 9), 0);
    }

    private static void due() {
        FallenHouses x = new FallenHouses();
        x.house(0, 0, 0, 1);
        Check.due("due(1, 0)", x.due(1, 0), Check.BAD);
        Check.due("due(-1, 0)", x.due(-1, 0), Check.BAD);
        Check.due("due(0, -1)", x.due(0, -1), Check.BAD);
        Check.due("due(0, 3600)", x.due(0, 3600), Check.BAD);
        Check.due("due(0, 0)", x.due(0, 0), 3599);
        Check.due("due(0, 3599)", x.due(0, 3599), 0);
        Check.due("houseOf(0, 6)", x.houseOf(0, 6), 3599);
    }

    private static void ride() {
        FallenHouses x = new FallenHouses();
        x.days(10);
        x.house(0, 0, 0, 1);
        x.house(1, 0, 0, 1);
        x.house(2, 0, 0, 1);
        x.road(0, 1, 2);
        x.road(1, 2, 3);
        // 0 on day 10, 1 on 13, 2 on 17: over on 18
        Check.due("ride(0, 7, 0)", x.ride(0, 7, 0), 3);
        Check.due("ride(0, 7, 1)", x.ride(0, 7, 1), 8);
        Check.due("ride(0, 7, 2)", x.ride(0, 7, 2), 10000012);
        int[][] rows = {{0, 10}, {1, 13}, {2, 17}};
        for (int i = 0; i < 3; i++) {
            for (int what = 0; what < 2; what++) Check.due("row(" + i + ", " + what + ")", x.row(i, what), rows[i][what]);
        }
        x.due(2, 17);
        Check.due("in time on the day itself", x.ride(0, 7, 0), 3);
        x.due(2, 16);
        // 0 on day 10, 2 on 16, 1 on 20: over on 21, all in time; so is 1 2 0, over on 23
        Check.due("ride(0, 7, 2)", x.ride(0, 7, 2), 10000021);
        Check.due("ride(0, 7, 1)", x.ride(0, 7, 1), 11);
        x.fall(2);
        Check.due("a fallen house, too", x.ride(2, 4, 1), 1);
        Check.due("one house", x.ride(9, 2, 2), 10000001);
        Check.due("one house, day", x.row(0, 1), 15);
    }

    private static void rideRefused() {
        FallenHouses x = new FallenHouses();
        Check.due("no houses", x.ride(0, 1, 0), Check.BAD);
        Check.due("no houses, empty set", x.ride(0, 0, 0), Check.NONE);
        Check.due("judge()", x.judge(), Check.NONE);
        for (int i = 0; i < 3; i++) x.house(i, 0, 0, 1);
        for (int set : new int[] {8, 9, 15, 16, 128}) {
            for (int what = 0; what < 3; what++) Check.due("ride(0, " + set + ", " + what + ")", x.ride(0, set, what), Check.BAD);
        }
        Check.due("judge()", x.judge(), Check.NONE);
        for (int i = 3; i < 8; i++) x.house(i, 0, 0, 1);
        Check.due("ride(-1, 1, 0)", x.ride(-1, 1, 0), Check.BAD);
        Check.due("ride(10, 1, 0)", x.ride(10, 1, 0), Check.BAD);
        Check.due("ride(0, 1, 3)", x.ride(0, 1, 3), Check.BAD);
        Check.due("ride(0, 1, -1)", x.ride(0, 1, -1), Check.BAD);
        Check.due("ride(0, 255, 0), eight", x.ride(0, 255, 0), Check.BAD);
        Check.due("ride(0, 256, 0)", x.ride(0, 256, 0), Check.BAD);
        Check.due("ride(0, -1, 0)", x.ride(0, -1, 0), Check.BAD);
        Check.due("ride(0, MIN, 0)", x.ride(0, Integer.MIN_VALUE, 0), Check.BAD);
        Check.due("ride(0, 0, 3)", x.ride(0, 0, 3), Check.BAD);
        Check.due("ride(0, 0, 2)", x.ride(0, 0, 2), Check.NONE);
        Check.due("many(10)", x.many(10), 0);
        Check.due("ride(0, 254, 0), seven", x.ride(0, 254, 0), 7);
        Check.due("many(10)", x.many(10), 7);
        x.ride(0, 0, 0);
        Check.due("many(10), a refused ride tells no rows", x.many(10), 7);
        Check.due("judge()", x.judge(), 0);
    }

    private static void rideTies() {
        FallenHouses x = new FallenHouses();
        for (int i = 0; i < 4; i++) x.house(3, 0, 0, 1);
        Check.due("all alike", x.ride(3, 15, 2), 10000123);
        x.due(2, 0);
        Check.due("the one that is due first", x.ride(3, 15, 2), 10002013);
        x.due(0, 0);
        x.due(1, 0);
        // one of 0, 1, 2 can be in time, and 3 always
        Check.due("the least first", x.ride(3, 15, 2), 10000123);
        Check.due("in time", x.ride(3, 15, 0), 2);
    }

    private static void rows() {
        FallenHouses x = new FallenHouses();
        x.house(0, 0, 0, 1);
        x.house(1, 0, 0, 1);
        Check.due("row(0, 0)", x.row(0, 0), -9);
        Check.due("alterRow(0, 0, 1)", x.alterRow(0, 0, 1), -9);
        Check.due("dropRow()", x.dropRow(), Check.NONE);
        x.ride(0, 3, 0);
        Check.due("row(2, 0)", x.row(2, 0), -9);
        Check.due("row(-1, 0)", x.row(-1, 0), -9);
        Check.due("row(0, 2)", x.row(0, 2), -9);
        Check.due("row(0, -1)", x.row(0, -1), -9);
        Check.due("alterRow(2, 0, 1)", x.alterRow(2, 0, 1), -9);
        Check.due("alterRow(-1, 0, 1)", x.alterRow(-1, 0, 1), -9);
        Check.due("alterRow(0, 2, 1)", x.alterRow(0, 2, 1), -9);
        Check.due("alterRow(0, -1, 1)", x.alterRow(0, -1, 1), -9);
        Check.due("alterRow(1, 1, MIN)", x.alterRow(1, 1, Integer.MIN_VALUE), 6);
        Check.due("row(1, 1)", x.row(1, 1), Integer.MIN_VALUE);
        Check.due("alterRow(1, 1, 8)", x.alterRow(1, 1, 8), Integer.MIN_VALUE);
        Check.due("alterRow(1, 0, 5)", x.alterRow(1, 0, 5), 1);
        Check.due("row(1, 0)", x.row(1, 0), 5);
        Check.due("row(0, 0)", x.row(0, 0), 0);
        Check.due("dropRow()", x.dropRow(), 1);
        Check.due("row(1, 0)", x.row(1, 0), -9);
        Check.due("dropRow()", x.dropRow(), 0);
        Check.due("dropRow()", x.dropRow(), Check.NONE);
        x.ride(0, 1, 0);
        Check.due("many(10)", x.many(10), 1);
    }

    private static void judge() {
        FallenHouses x = new FallenHouses();
        for (int i = 0; i < 3; i++) x.house(i, 0, 0, 1);
        Check.due("judge()", x.judge(), Check.NONE);
        x.ride(0, 7, 0);
        Check.due("judge()", x.judge(), 0);
        x.alterRow(2, 0, 7);
        Check.due("judge(), the third", x.judge(), 3);
        x.alterRow(0, 1, 7);
        Check.due("judge(), the first", x.judge(), 1);
        x.alterRow(0, 1, 0);
        x.alterRow(2, 0, 2);
        Check.due("judge()", x.judge(), 0);
        x.days(5);
        x.road(0, 1, 9);
        Check.due("judge(), as they were told", x.judge(), 0);
        x.dropRow();
        Check.due("judge(), too few", x.judge(), 3);
        x.alterRow(1, 1, 99);
        Check.due("judge(), wrong and too few", x.judge(), 2);
        x.dropRow();
        x.dropRow();
        Check.due("judge(), no row", x.judge(), 1);
    }

    /** Every way is tried here, and told apart by the document's three rules. */
    private static void ridesAsTried(Random random) {
        FallenHouses x = new FallenHouses();
        int houses = 1 + random.nextInt(8);
        int[] place = new int[houses];
        int[] due = new int[houses];
        int[][] roads = new int[10][10];
        for (int a = 0; a < 10; a++) {
            for (int b = 0; b < a; b++) {
                roads[a][b] = roads[b][a] = 1 + random.nextInt(6);
                x.road(a, b, roads[a][b]);
            }
        }
        for (int h = 0; h < houses; h++) {
            place[h] = random.nextInt(10);
            due[h] = random.nextInt(25);
            x.house(place[h], 0, 0, 1);
            x.due(h, due[h]);
        }
        int set = 1 + random.nextInt((1 << houses) - 1);
        if (set == 255) set = 127;
        int[] best = new Ways(place, due, roads).best(4, set);
        Check.due("in time", x.ride(4, set, 0), best[0]);
        Check.due("days in all", x.ride(4, set, 1), best[1]);
        Check.due("houses", x.ride(4, set, 2), 10000000 + best[2]);
        Check.due("judge()", x.judge(), 0);
    }

    private record Ways(int[] place, int[] due, int[][] roads) {
        /** In time, days in all, houses as digits. */
        int[] best(int from, int set) {
            return go(from, set, 0, 0, 0);
        }

        private int[] go(int at, int left, int day, int timely, int digits) {
            if (left == 0) return new int[] {timely, day, digits};
            int[] best = null;
            for (int h = 0; h < place.length; h++) {
                if ((left & 1 << h) == 0) continue;
                int comes = day + roads[at][place[h]];
                int[] one = go(place[h], left ^ 1 << h, comes + 1, timely + (comes <= due[h] ? 1 : 0), digits * 10 + h);
                if (best == null || one[0] > best[0] || one[0] == best[0] && (one[1] < best[1]
                    || one[1] == best[1] && one[2] < best[2])) best = one;
            }
            return best;
        }
    }
}
