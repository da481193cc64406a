/** Promises 14 to 17: right, rightOf, hangs, prove. */
final class RightsTest {
    public static void main(String[] args) {
        right();
        ofAsTold();
        full();
        rightOf();
        hangs();
        prove();
        goneByFalls();
        provedStaysProved();
        Check.finish();
    }

    private static FallenHouses land() {
        FallenHouses x = new FallenHouses();
        x.person(0);
        x.person(0);
        x.house(0, 0, 100, 9);
        x.house(1, 1, 100, 9);
        x.house(2, 2, 100, 9);
        return x;
    }

    private static void right() {
        FallenHouses x = land();
        Check.due("kind 8", x.right(8, 0, 0, 1, 0, 0, 0, -1), Check.BAD);
        Check.due("kind -1", x.right(-1, 0, 0, 1, 0, 0, 0, -1), Check.BAD);
        Check.due("house 3", x.right(0, 3, 0, 1, 0, 0, 0, -1), Check.BAD);
        Check.due("house -1", x.right(0, -1, 0, 1, 0, 0, 0, -1), Check.BAD);
        Check.due("person 2", x.right(0, 0, 2, 1, 0, 0, 0, -1), Check.BAD);
        Check.due("person -1", x.right(0, 0, -1, 1, 0, 0, 0, -1), Check.BAD);
        Check.due("amount 0", x.right(0, 0, 0, 0, 0, 0, 0, -1), Check.BAD);
        Check.due("amount 1000", x.right(0, 0, 0, 1000, 0, 0, 0, -1), Check.BAD);
        Check.due("from -1", x.right(0, 0, 0, 1, -1, 0, 0, -1), Check.BAD);
        Check.due("from 3600", x.right(0, 0, 0, 1, 3600, 3600, 0, -1), Check.BAD);
        Check.due("to 3600", x.right(0, 0, 0, 1, 0, 3600, 0, -1), Check.BAD);
        Check.due("to ahead of from", x.right(0, 0, 0, 1, 5, 4, 0, -1), Check.BAD);
        Check.due("leans on none", x.right(0, 0, 0, 1, 0, 0, 0, 0), Check.BAD);
        Check.due("leans -2", x.right(0, 0, 0, 1, 0, 0, 0, -2), Check.BAD);
        Check.due("leans -3", x.right(0, 0, 0, 1, 0, 0, 0, -3), Check.BAD);
        Check.due("as it should be", x.right(0, 0, 0, 999, 5, 5, 0, -1), 0);
        Check.due("leans on one of another house", x.right(3, 1, 1, 1, 0, 3599, 0, 0), 1);
        Check.due("leans on itself", x.right(3, 1, 1, 1, 0, 3599, 0, 2), Check.BAD);
        x.fall(0);
        Check.due("of a fallen house", x.right(0, 0, 0, 1, 0, 0, 0, -1), Check.STATE);
        Check.due("many(4)", x.many(4), 2);
    }

    private static void ofAsTold() {
        FallenHouses x = land();
        x.thing(0, 0, 10);
        x.thing(1, 0, 10);
        for (int kind : new int[] {0, 1, 3, 4, 5}) {
            Check.due("of 1 with kind " + kind, x.right(kind, 0, 0, 1, 0, 0, 1, -1), Check.BAD);
            Check.due("of -1 with kind " + kind, x.right(kind, 0, 0, 1, 0, 0, -1, -1), Check.BAD);
        }
        Check.due("dated -1", x.right(2, 0, 0, 1, 0, 0, -1, -1), Check.BAD);
        Check.due("dated 3600", x.right(2, 0, 0, 1, 0, 0, 3600, -1), Check.BAD);
        Check.due("dated 3599", x.right(2, 0, 0, 1, 0, 0, 3599, -1), 0);
        Check.due("pledge of no thing", x.right(6, 0, 0, 1, 0, 0, 2, -1), Check.BAD);
        Check.due("pledge of thing -1", x.right(6, 0, 0, 1, 0, 0, -1, -1), Check.BAD);
        Check.due("pledge of another house's thing", x.right(6, 0, 0, 1, 0, 0, 1, -1), Check.BAD);
        Check.due("pledge", x.right(6, 0, 0, 1, 0, 0, 0, -1), 1);
        Check.due("thingOf(0, 3)", x.thingOf(0, 3), 2);
        Check.due("pledge of what is pawned", x.right(6, 0, 0, 1, 0, 0, 0, -1), Check.STATE);
        Check.due("sell what is pawned", x.sell(0), Check.STATE);
        Check.due("claim against none", x.right(7, 0, 0, 1, 0, 0, 2, -1), Check.BAD);
        Check.due("claim against -1", x.right(7, 0, 0, 1, 0, 0, -1, -1), Check.BAD);
        Check.due("claim", x.right(7, 0, 0, 1, 0, 0, 1, -1), 2);
        Check.due("claim against a claim", x.right(7, 0, 0, 1, 0, 0, 2, -1), 3);
    }

    private static void full() {
        FallenHouses x = land();
        x.thing(0, 0, 10);
        x.thing(0, 0, 10);
        x.right(6, 0, 0, 1, 0, 0, 1, -1);
        for (int i = 1; i < 24; i++) Check.due("right", x.right(i % 6 == 2 ? 0 : i % 6, 1, 0, 1, 0, 0, 0, -1), i);
        Check.due("full", x.right(0, 1, 0, 1, 0, 0, 0, -1), Check.FULL);
        Check.due("full, a pledge", x.right(6, 0, 0, 1, 0, 0, 0, -1), Check.FULL);
        Check.due("nothing was pawned", x.thingOf(0, 3), 0);
        Check.due("full, and pawned", x.right(6, 0, 0, 1, 0, 0, 1, -1), Check.STATE);
        x.fall(1);
        Check.due("full, and fallen", x.right(0, 1, 0, 1, 0, 0, 0, -1), Check.STATE);
        Check.due("full, fallen and bad", x.right(0, 1, 0, 0, 0, 0, 0, -1), Check.BAD);
        Check.due("many(4)", x.many(4), 24);
    }

    private static void rightOf() {
        FallenHouses x = land();
        x.right(2, 1, 1, 33, 4, 40, 17, -1);
        x.right(7, 2, 0, 12, 1, 2, 0, 0);
        int[][] of = {{2, 1, 1, 33, 4, 40, Check.NONE, 17, Check.NONE, 1, Check.NONE},
            {7, 2, 0, 12, 1, 2, 0, 0, Check.NONE, 0, Check.NONE}};
        for (int right = 0; right < 2; right++) {
            for (int what = 0; what <= 10; what++) {
                Check.due("rightOf(" + right + ", " + what + ")", x.rightOf(right, what), of[right][what]);
            }
        }
        Check.due("rightOf(0, 11)", x.rightOf(0, 11), Check.BAD);
        Check.due("rightOf(0, -1)", x.rightOf(0, -1), Check.BAD);
        Check.due("rightOf(2, 0)", x.rightOf(2, 0), Check.BAD);
        Check.due("rightOf(-1, 0)", x.rightOf(-1, 0), Check.BAD);
        x.days(6);
        // the claim leans on what it is against: both are gone
        Check.due("prove(1)", x.prove(1), 2);
        Check.due("rightOf(0, 8)", x.rightOf(0, 8), 6);
        Check.due("rightOf(1, 8)", x.rightOf(1, 8), 6);
        Check.due("rightOf(1, 10)", x.rightOf(1, 10), 6);
        Check.due("rightOf(0, 10)", x.rightOf(0, 10), Check.NONE);
    }

    private static void hangs() {
        FallenHouses x = land();
        x.right(0, 0, 0, 1, 0, 0, 0, -1);
        x.right(0, 0, 0, 1, 0, 0, 0, 0);
        x.right(0, 1, 0, 1, 0, 0, 0, 0);
        x.right(7, 1, 0, 1, 0, 0, 0, -1);
        x.right(0, 1, 0, 1, 0, 0, 0, 2);
        x.right(0, 1, 0, 1, 0, 0, 0, 4);
        x.right(0, 1, 0, 1, 0, 0, 0, 3);
        int[] bits = {2 + 4 + 16 + 32, 0, 16 + 32, 64, 32, 0, 0};
        for (int i = 0; i < bits.length; i++) {
            Check.due("hangs(" + i + ")", x.hangs(i), bits[i]);
            Check.due("rightOf(" + i + ", 9)", x.rightOf(i, 9), Integer.bitCount(bits[i]));
        }
        Check.due("hangs(7)", x.hangs(7), Check.BAD);
        Check.due("hangs(-1)", x.hangs(-1), Check.BAD);
        x.fall(0);
        Check.due("what is gone hangs, too", x.hangs(0), bits[0]);
    }

    private static void prove() {
        FallenHouses x = land();
        x.right(1, 0, 0, 1, 0, 0, 0, -1);
        x.right(1, 1, 0, 1, 0, 0, 0, 0);
        x.right(7, 1, 0, 1, 0, 0, 0, -1);
        x.right(7, 1, 0, 1, 0, 0, 2, -1);
        x.right(7, 2, 0, 1, 0, 0, 2, -1);
        x.right(7, 2, 0, 1, 0, 0, 0, -1);
        x.days(3);
        Check.due("prove(6)", x.prove(6), Check.BAD);
        Check.due("prove(-1)", x.prove(-1), Check.BAD);
        Check.due("prove(0), no claim", x.prove(0), Check.STATE);
        Check.due("prove(3), against a claim", x.prove(3), 1);
        Check.due("prove(2), gone", x.prove(2), Check.STATE);
        Check.due("rightOf(2, 10)", x.rightOf(2, 10), Check.NONE);
        Check.due("prove(3), proved", x.prove(3), Check.STATE);
        x.days(2);
        Check.due("prove(4), of what is gone already", x.prove(4), 0);
        Check.due("rightOf(2, 8), the first day", x.rightOf(2, 8), 3);
        Check.due("prove(5)", x.prove(5), 2);
        Check.due("rightOf(1, 8)", x.rightOf(1, 8), 5);
        Check.due("many(14)", x.many(14), 3);
    }

    private static void goneByFalls() {
        FallenHouses x = land();
        Check.read(x, 0, "rent stand;");
        x.right(1, 0, 0, 1, 0, 0, 0, -1);
        x.right(3, 0, 0, 1, 0, 0, 0, -1);
        x.right(1, 1, 0, 1, 0, 0, 0, 1);
        x.right(1, 1, 0, 1, 0, 0, 0, 0);
        x.right(7, 2, 0, 1, 0, 0, 0, -1);
        Check.due("many(14)", x.many(14), 0);
        x.days(7);
        x.fall(0);
        Check.due("many(14)", x.many(14), 2);
        x.days(1);
        x.fall(1);
        int[] gone = {Check.NONE, 7, 7, Check.NONE};
        for (int i = 0; i < gone.length; i++) Check.due("rightOf(" + i + ", 8)", x.rightOf(i, 8), gone[i]);
        x.days(1);
        Check.due("prove(4)", x.prove(4), 2);
        Check.due("rightOf(3, 8)", x.rightOf(3, 8), 9);
        x.fall(2);
        Check.due("rightOf(4, 8)", x.rightOf(4, 8), 9);
        Check.due("many(14)", x.many(14), 5);
    }

    /** A claim that is gone proved what it proved. */
    private static void provedStaysProved() {
        FallenHouses x = land();
        x.right(1, 0, 0, 1, 0, 0, 0, -1);
        x.right(7, 1, 0, 1, 0, 0, 0, -1);
        x.right(7, 2, 0, 1, 0, 0, 1, -1);
        x.days(2);
        x.prove(1);
        x.days(2);
        Check.due("prove(2)", x.prove(2), 1);
        Check.due("rightOf(1, 8)", x.rightOf(1, 8), 4);
        Check.due("rightOf(0, 8)", x.rightOf(0, 8), 2);
    }
}
