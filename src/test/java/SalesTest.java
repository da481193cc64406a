import java.util.Random;

/** Promises 40 to 43: lot, buyer, clear, sale. */
final class SalesTest {
    public static void main(String[] args) {
        lotsAndBuyers();
        refused();
        fewestFall();
        mostComes();
        ties();
        withoutBuyers();
        for (int seed = 1; seed <= 120; seed++) salesAsTried(new Random(seed));
        Check.finish();
    }

    private static void lotsAndBuyers() {
        FallenHouses x = new FallenHouses();
        Check.due("lot(0)", x.lot(0), Check.BAD);
        Check.due("lot(100)", x.lot(100), Check.BAD);
        Check.due("buyer(-1)", x.buyer(-1), Check.BAD);
        Check.due("buyer(301)", x.buyer(301), Check.BAD);
        Check.due("clear()", x.clear(), 0);
        for (int i = 1; i <= 7; i++) Check.due("lot", x.lot(i == 1 ? 99 : 1), i);
        Check.due("lot(1)", x.lot(1), Check.FULL);
        Check.due("lot(0)", x.lot(0), Check.BAD);
        for (int i = 1; i <= 3; i++) Check.due("buyer", x.buyer(i == 1 ? 0 : 300), i);
        Check.due("buyer(1)", x.buyer(1), Check.FULL);
        Check.due("buyer(301)", x.buyer(301), Check.BAD);
        Check.due("many(7)", x.many(7), 7);
        Check.due("many(8)", x.many(8), 3);
        Check.due("clear()", x.clear(), 10);
        Check.due("many(7)", x.many(7), 0);
        Check.due("many(8)", x.many(8), 0);
        Check.due("lot(5)", x.lot(5), 1);
        Check.due("buyer(5)", x.buyer(5), 1);
    }

    private static void refused() {
        FallenHouses x = new FallenHouses();
        x.lot(5);
        x.buyer(5);
        Check.due("sale(-1, 0)", x.sale(-1, 0), Check.BAD);
        Check.due("sale(901, 0)", x.sale(901, 0), Check.BAD);
        Check.due("sale(900, 0)", x.sale(900, 0), Check.NONE);
        for (int what : new int[] {-1, 2, 9, 11, 17, Integer.MAX_VALUE, Integer.MIN_VALUE}) {
            Check.due("sale(0, " + what + ")", x.sale(0, what), Check.BAD);
            Check.due("sale(900, " + what + ")", x.sale(900, what), Check.BAD);
        }
        Check.due("sale(5, 10)", x.sale(5, 10), 0);
        Check.due("sale(6, 10)", x.sale(6, 10), Check.NONE);
    }

    private static void fewestFall() {
        FallenHouses x = new FallenHouses();
        x.lot(60);
        x.lot(60);
        x.buyer(100);
        x.buyer(50);
        int[][] dues = {{0, 0, 60, 0, -9}, {60, 0, 60, 0, -9}, {61, 1, 110, 0, 1}, {110, 1, 110, 0, 1}};
        for (int[] due : dues) {
            Check.due("falls for " + due[0], x.sale(due[0], 0), due[1]);
            Check.due("comes for " + due[0], x.sale(due[0], 1), due[2]);
            Check.due("lot 0 for " + due[0], x.sale(due[0], 10), due[3]);
            Check.due("lot 1 for " + due[0], x.sale(due[0], 11), due[4]);
        }
        Check.due("sale(111, 0)", x.sale(111, 0), Check.NONE);
        // a buyer whose coin is just spent doesn't fall
        x.clear();
        x.lot(40);
        x.lot(60);
        x.buyer(100);
        Check.due("sale(100, 0)", x.sale(100, 0), 0);
        Check.due("sale(0, 1)", x.sale(0, 1), 100);
    }

    private static void mostComes() {
        FallenHouses x = new FallenHouses();
        x.lot(30);
        x.lot(20);
        x.lot(25);
        x.buyer(45);
        Check.due("sale(0, 1)", x.sale(0, 1), 45);
        Check.due("sale(0, 10)", x.sale(0, 10), -9);
        Check.due("sale(0, 11)", x.sale(0, 11), 0);
        Check.due("sale(0, 12)", x.sale(0, 12), 0);
    }

    private static void ties() {
        FallenHouses x = new FallenHouses();
        x.lot(10);
        x.lot(10);
        x.lot(10);
        x.buyer(10);
        x.buyer(10);
        Check.due("the first lot to the lesser buyer", x.sale(0, 10), 0);
        Check.due("the second to the other", x.sale(0, 11), 1);
        Check.due("the last to none", x.sale(0, 12), -9);
        Check.due("falls", x.sale(20, 0), 0);
    }

    private static void withoutBuyers() {
        FallenHouses x = new FallenHouses();
        Check.due("sale(0, 0)", x.sale(0, 0), 0);
        Check.due("sale(0, 10)", x.sale(0, 10), Check.BAD);
        x.lot(9);
        Check.due("sale(0, 10)", x.sale(0, 10), -9);
        Check.due("sale(0, 1)", x.sale(0, 1), 0);
        Check.due("sale(1, 1)", x.sale(1, 1), Check.NONE);
        x.buyer(0);
        Check.due("a buyer without coin falls: to none", x.sale(0, 10), -9);
    }

    /** Every sale is tried here. */
    private static void salesAsTried(Random random) {
        FallenHouses x = new FallenHouses();
        int[] prices = new int[random.nextInt(7)];
        int[] coins = new int[random.nextInt(4)];
        int top = 2 + random.nextInt(98);
        for (int i = 0; i < prices.length; i++) x.lot(prices[i] = 1 + random.nextInt(top));
        for (int i = 0; i < coins.length; i++) x.buyer(coins[i] = random.nextInt(2 * top));
        int goal = random.nextInt(2 * top * (1 + coins.length));
        if (goal > 900) goal = 900;
        int kinds = coins.length + 1;
        int all = 1;
        for (int i = 0; i < prices.length; i++) all *= kinds;
        int bestFalls = 99, bestComes = 0, best = -1;
        for (int one = 0; one < all; one++) {
            int[] sums = new int[kinds];
            int left = one;
            for (int lot = prices.length - 1; lot >= 0; lot--) {
                sums[left % kinds] += prices[lot];
                left /= kinds;
            }
            int falls = 0, comes = 0;
            for (int b = 0; b < coins.length; b++) {
                if (sums[b] > coins[b]) falls++;
                comes += Math.min(sums[b], coins[b]);
            }
            if (comes < goal || falls > bestFalls || falls == bestFalls && comes <= bestComes && best >= 0) continue;
            bestFalls = falls;
            bestComes = comes;
            best = one;
        }
        Check.due("falls", x.sale(goal, 0), best < 0 ? Check.NONE : bestFalls);
        Check.due("comes", x.sale(goal, 1), best < 0 ? Check.NONE : bestComes);
        int left = best;
        for (int lot = prices.length - 1; lot >= 0; lot--) {
            int to = left % kinds;
            left /= kinds;
            Check.due("lot " + lot, x.sale(goal, 10 + lot), best < 0 ? Check.NONE : to == coins.length ? -9 : to);
        }
    }
}
