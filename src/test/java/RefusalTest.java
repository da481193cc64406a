import java.util.Arrays;
import java.util.Random;

/** What holds for all calls: they answer whatever they are asked, the same again, and a refused one changes nothing. */
final class RefusalTest {
    private static final int CALLS = 59;
    private static final int[] EDGES = {Integer.MIN_VALUE, Integer.MIN_VALUE + 1, -100, -2, -1, 0, 1, 2, 3, 4, 5, 7, 8, 9,
        10, 11, 15, 16, 20, 21, 23, 24, 30, 39, 40, 41, 89, 90, 99, 100, 255, 300, 301, 900, 999, 1000, 3599, 3600, 9999,
        10000, Integer.MAX_VALUE - 1, Integer.MAX_VALUE};
    private static final String[] TEXTS = {"right stand;", "lease fall if dated within 90 or not held;", "debt rank 3 ;",
        "rent and alms stand if (order 1 and amount above 20) ; pledge rank 0;", "right stand if", "claim fall if (((((held)))));"};

    public static void main(String[] args) {
        for (int seed = 1; seed <= 150; seed++) {
            anythingIsAnswered(new Random(seed), seed % 2 == 0);
            theSameAgain(seed);
        }
        for (int seed = 1; seed <= 25; seed++) refusedChangesNothing(new Random(seed));
        Check.finish();
    }

    /** An exception would end the test. */
    private static void anythingIsAnswered(Random random, boolean atEdges) {
        FallenHouses x = atEdges ? new FallenHouses() : Worlds.full();
        for (int i = 0; i < 512; i++) call(x, random.nextInt(CALLS), random, atEdges);
        Check.due("answered", 1, 1);
    }

    private static void theSameAgain(int seed) {
        FallenHouses x = Worlds.full();
        FallenHouses y = Worlds.full();
        Random forX = new Random(seed);
        Random forY = new Random(seed);
        for (int i = 0; i < 300; i++) {
            Check.due("the same call", call(x, forX.nextInt(CALLS), forX, false), call(y, forY.nextInt(CALLS), forY, false));
        }
    }

    private static void refusedChangesNothing(Random random) {
        FallenHouses x = Worlds.full();
        for (int i = 0; i < 200; i++) {
            int[] kept = Worlds.kept(x);
            int[] host = Worlds.host(x);
            int which = random.nextInt(CALLS);
            int answer = call(x, which, random, random.nextBoolean());
            if (answer >= 0 || mayAnswerBelow0(which)) continue;
            Check.due("kept behind call " + which + " that answered " + answer, Arrays.equals(kept, Worlds.kept(x)) ? 1 : 0, 1);
            Check.due("host behind call " + which + " that answered " + answer, Arrays.equals(host, Worlds.host(x)) ? 1 : 0, 1);
        }
    }

    /** feed and read (in one), alterRow, deal: below 0 is no refusal, or the tape is used up. */
    private static boolean mayAnswerBelow0(int which) {
        return which == 17 || which == 18 || which == 36 || which == 54;
    }

    private static int number(Random random, boolean atEdges) {
        if (atEdges) return EDGES[random.nextInt(EDGES.length)];
        int kind = random.nextInt(10);
        return kind < 6 ? random.nextInt(5) : kind < 8 ? random.nextInt(25) : kind < 9 ? random.nextInt(100) : random.nextInt(1000);
    }

    private static int call(FallenHouses x, int which, Random random, boolean atEdges) {
        int[] n = new int[8];
        for (int i = 0; i < 8; i++) n[i] = number(random, atEdges);
        int lean = random.nextBoolean() ? -1 : n[7];
        switch (which) {
            case 1: return x.days(n[0]);
            case 2: return x.road(n[0], n[1], n[2]);
            case 3: return x.person(n[0]);
            case 4: return x.die(n[0], n[1]);
            case 5: return x.house(n[0], n[1], n[2], n[3]);
            case 6: return random.nextInt(5) == 0 ? x.fall(n[0]) : x.houseOf(n[0], n[1]);
            case 7: return x.houseOf(n[0], n[1]);
            case 8: return x.thing(n[0], n[1], n[2]);
            case 9: return x.thingOf(n[0], n[1]);
            case 10: return x.sell(n[0]);
            case 11: return x.show(n[0], n[1]);
            case 12: return x.strip(n[0]);
            case 13: return x.right(n[0], n[1], n[2], n[3], n[4], n[5], n[6], lean);
            case 14: return x.rightOf(n[0], n[1]);
            case 15: return x.hangs(n[0]);
            case 16: return x.prove(n[0]);
            case 17: return atEdges ? x.feed(random.nextLong(), n[0]) : Check.feed(x, TEXTS[random.nextInt(TEXTS.length)]);
            case 18: return x.read(n[0]);
            case 19: return x.strike(n[0]);
            case 20: return x.version(n[0], n[1]);
            case 21: return x.stands(n[0]);
            case 22: return x.why(n[0]);
            case 23: return x.rank(n[0]);
            case 24: return x.gets(n[0]);
            case 25: return x.pension(n[0], n[1]);
            case 26: return x.witness(n[0], n[1]);
            case 27: return x.sealOf(n[0], n[1]);
            case 28: return x.seal(n[0], n[1]);
            case 29: return x.told(n[0], n[1]);
            default: return laterCall(x, which, n);
        }
    }

    private static int laterCall(FallenHouses x, int which, int[] n) {
        switch (which) {
            case 30: return x.stay(n[0], n[1], n[2]);
            case 31: return x.shown(n[0]);
            case 32: return x.value(n[0], n[1]);
            case 33: return x.due(n[0], n[1]);
            case 34: return x.ride(n[0], n[1], n[2] & 3);
            case 35: return x.row(n[0], n[1]);
            case 36: return x.alterRow(n[0], n[1], n[2]);
            case 37: return x.dropRow();
            case 38: return x.judge();
            case 39: return x.lot(n[0]);
            case 40: return x.buyer(n[0]);
            case 41: return x.clear();
            case 42: return x.sale(n[0], n[1]);
            case 43: return x.deed(n[0], n[1], n[2], n[3], n[4]);
            case 44: return x.title(n[0], n[1], n[2]);
            case 45: return x.quarrels(n[0], n[1]);
            case 46: return x.owed(n[0], n[1], n[2], n[3]);
            case 47: return x.order(n[0]);
            case 48: return x.sheet(n[0], n[1], n[2]);
            case 49: return x.put(n[0], n[1], n[2]);
            case 50: return x.item(n[0], n[1], n[2]);
            case 51: return x.comes(n[0], n[1]);
            case 52: return x.shelf(n[0], n[1], n[2]);
            case 53: return x.taken(n[0], n[1]);
            case 54: return x.deal(n[0], n[1], n[2]);
            case 55: return x.trace(n[0]);
            case 56: return x.many(n[0]);
            case 57: return x.keep();
            default: return x.again();
        }
    }
}
