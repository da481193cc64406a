import java.util.Random;

/** Promise 48: order. */
final class OrderTest {
    public static void main(String[] args) {
        refused();
        plain();
        leaning();
        fallen();
        for (int seed = 1; seed <= 80; seed++) ordersAsTried(new Random(seed));
        Check.finish();
    }

    private static void refused() {
        FallenHouses x = new FallenHouses();
        Check.due("order(0)", x.order(0), 0);
        Check.due("order(1)", x.order(1), Check.BAD);
        for (int i = 0; i < 8; i++) x.house(0, 0, 0, 9);
        Check.due("order(9)", x.order(9), Check.BAD);
        Check.due("order(-1)", x.order(-1), Check.BAD);
        Check.due("order(MAX)", x.order(Integer.MAX_VALUE), Check.BAD);
        Check.due("order(MIN)", x.order(Integer.MIN_VALUE), Check.BAD);
        for (int i = 0; i < 8; i++) Check.due("order(" + (i + 1) + ")", x.order(i + 1), i);
        x.fall(0);
        Check.due("order(8), seven are left", x.order(8), Check.BAD);
        Check.due("order(1)", x.order(1), 1);
    }

    private static void plain() {
        FallenHouses x = new FallenHouses();
        x.person(0);
        for (int i = 0; i < 3; i++) x.house(0, 0, 0, 9);
        x.right(1, 0, 0, 10, 0, 0, 0, -1);
        x.right(2, 1, 0, 4, 0, 0, 0, -1);
        x.right(2, 1, 0, 8, 0, 0, 0, -1);
        for (int kind : new int[] {0, 3, 4, 5}) x.right(kind, 2, 0, 900, 0, 0, 0, -1);
        // 2 at once; then 0 after one step, and 1 after two
        Check.due("order(0)", x.order(0), 10 + 24);
        Check.due("order(1)", x.order(1), 2);
        Check.due("order(2)", x.order(2), 0);
        Check.due("order(3)", x.order(3), 1);
        x.right(7, 2, 0, 900, 0, 0, 2, -1);
        x.prove(7);
        Check.due("order(0), one lease is gone", x.order(0), 20 + 4);
        Check.due("order(3)", x.order(3), 0);
    }

    private static void leaning() {
        FallenHouses x = new FallenHouses();
        x.person(0);
        for (int i = 0; i < 3; i++) x.house(0, 0, 0, 9);
        x.right(0, 0, 0, 1, 0, 0, 0, -1);
        x.right(1, 2, 0, 10, 0, 0, 0, 0);
        // only till 0 or 2 falls: 1 0 2 and 1 2 0 bring as much
        Check.due("order(0)", x.order(0), 10);
        Check.due("order(1)", x.order(1), 1);
        Check.due("order(2)", x.order(2), 0);
        Check.due("order(3)", x.order(3), 2);
    }

    private static void fallen() {
        FallenHouses x = new FallenHouses();
        x.person(0);
        for (int i = 0; i < 3; i++) x.house(0, 0, 0, 9);
        x.right(0, 0, 0, 1, 0, 0, 0, -1);
        x.right(1, 2, 0, 10, 0, 0, 0, 0);
        x.right(1, 0, 0, 500, 0, 0, 0, -1);
        Check.read(x, 0, "right stand;");
        x.fall(0);
        // what leans on a fallen house's right that stands brings on; what is of the fallen house brings nothing
        Check.due("order(0)", x.order(0), 10);
        Check.due("order(1)", x.order(1), 1);
        Check.due("order(2)", x.order(2), 2);
        Check.due("order(3)", x.order(3), Check.BAD);
        x.strike(0);
        Check.due("order(0), gone", x.order(0), 0);
    }

    /** Every order is tried here, step by step. */
    private static void ordersAsTried(Random random) {
        FallenHouses x = new FallenHouses();
        x.person(0);
        Check.read(x, 0, "right stand if amount above 6;");
        int houses = 1 + random.nextInt(6);
        for (int i = 0; i < houses; i++) x.house(random.nextInt(10), 0, 0, 9);
        int rights = random.nextInt(24);
        for (int i = 0; i < rights; i++) {
            int kind = 1 + random.nextInt(3);
            x.right(kind, random.nextInt(houses), 0, 1 + random.nextInt(20), 0, 0, 0, random.nextInt(i + 1) - 1);
        }
        boolean[] fell = new boolean[houses];
        int left = houses;
        for (int i = random.nextInt(3); i > 0; i--) {
            int h = random.nextInt(houses);
            if (x.fall(h) < 0) continue;
            fell[h] = true;
            left--;
        }
        int[] best = tried(x, fell, new int[left], 0);
        Check.due("order(0)", x.order(0), best[left]);
        for (int i = 0; i < left; i++) Check.due("order(" + (1 + i) + ")", x.order(1 + i), best[i]);
    }

    /** The best order that begins with those that are put down: its HOUSES, and behind them what it brings. */
    private static int[] tried(FallenHouses x, boolean[] fell, int[] line, int many) {
        if (many == line.length) {
            int[] whole = java.util.Arrays.copyOf(line, many + 1);
            whole[many] = brought(x, fell, line);
            return whole;
        }
        int[] best = null;
        for (int h = 0; h < fell.length; h++) {
            boolean isIn = fell[h];
            for (int i = 0; i < many; i++) isIn |= line[i] == h;
            if (isIn) continue;
            line[many] = h;
            int[] one = tried(x, fell, line, many + 1);
            if (best == null || one[line.length] > best[line.length]) best = one;
        }
        return best;
    }

    private static int brought(FallenHouses x, boolean[] fell, int[] line) {
        int sum = 0;
        for (int right = 0; right < x.many(4); right++) {
            int kind = x.rightOf(right, 0);
            if (kind != 1 && kind != 2 || x.rightOf(right, 8) != Check.NONE || fell[x.rightOf(right, 1)]) continue;
            int steps = stepOf(line, x.rightOf(right, 1));
            int leans = x.rightOf(right, 6);
            if (leans >= 0 && !fell[x.rightOf(leans, 1)]) steps = Math.min(steps, stepOf(line, x.rightOf(leans, 1)));
            sum += steps * x.rightOf(right, 3);
        }
        return sum;
    }

    private static int stepOf(int[] line, int house) {
        for (int i = 0; i < line.length; i++) {
            if (line[i] == house) return i;
        }
        return 0;
    }
}
