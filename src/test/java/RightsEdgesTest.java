import java.util.function.ToIntFunction;

/** Promises 14 to 17, sentence by sentence: each bound with what is on it and what is behind it. */
final class RightsEdgesTest {
    public static void main(String[] args) {
        right();
        kinds();
        ofAsTold();
        rightRefused();
        rightState();
        rightFull();
        rightOf();
        rightOfRefused();
        gone();
        goneAtOnce();
        hangs();
        prove();
        proveRefused();
        provesNothing();
        Check.finish();
    }

    /** Three HOUSES and two PERSONS, a THING of each HOUSE. */
    private static FallenHouses land() {
        FallenHouses x = new FallenHouses();
        x.person(0);
        x.person(0);
        for (int i = 0; i < 3; i++) x.house(i, i, 100, 9);
        for (int i = 0; i < 3; i++) x.thing(i, 0, 10);
        return x;
    }

    private static void right() {
        Check.sentence(14, "A RIGHT: its number.");
        FallenHouses x = land();
        Check.due("right", x.right(1, 2, 1, 5, 6, 7, 0, -1), 0);
        Check.due("right", x.right(1, 2, 1, 5, 6, 7, 0, -1), 1);
        Check.sentence(14, "A RIGHT is on a HOUSE, held by a PERSON, of an AMOUNT (1 to 999), FROM a DAY TO a DAY.");
        Check.due("amount 1, on one day", x.right(0, 0, 0, 1, 0, 0, 0, -1), 2);
        Check.due("amount 999, on all days", x.right(0, 2, 1, 999, 0, 3599, 0, -1), 3);
        Check.due("on the last day", x.right(0, 2, 1, 998, 3599, 3599, 0, -1), 4);
        int[][] of = {{0, 0, 0, 1, 0, 0}, {0, 2, 1, 999, 0, 3599}, {0, 2, 1, 998, 3599, 3599}};
        for (int r = 0; r < 3; r++) {
            for (int what = 0; what < 6; what++) Check.due("rightOf(" + (2 + r) + ", " + what + ")", x.rightOf(2 + r, what), of[r][what]);
        }
        Check.sentence(14, "It may LEAN on an older one (on any HOUSE).");
        Check.due("leans on one of another house", x.right(3, 1, 1, 1, 0, 0, 0, 2), 5);
        Check.due("leans on the latest", x.right(3, 1, 1, 1, 0, 0, 0, 5), 6);
        Check.due("leans on the first", x.right(3, 1, 1, 1, 0, 0, 0, 0), 7);
        Check.due("leans on none", x.right(3, 1, 1, 1, 0, 0, 0, -1), 8);
        int[] leans = {2, 5, 0, Check.NONE};
        for (int i = 0; i < 4; i++) Check.due("rightOf(" + (5 + i) + ", 6)", x.rightOf(5 + i, 6), leans[i]);
        Check.refused(x, Check.BAD, "leans on itself", y -> y.right(3, 1, 1, 1, 0, 0, 0, 9));
    }

    private static void kinds() {
        Check.sentence(14, "RIGHTS, 24 at most, numbered as they come: of a KIND: 0 right, 1 rent, 2 lease, 3 alms, 4 pension, 5 debt, "
            + "6 pledge, 7 claim.");
        FallenHouses x = land();
        for (int kind = 0; kind < 8; kind++) {
            Check.due("kind " + kind, x.right(kind, 0, 0, 1, 0, 0, 0, -1), kind);
            Check.due("rightOf(" + kind + ", 0)", x.rightOf(kind, 0), kind);
        }
        // each is known by what only it can do
        Check.due("the lease has witnesses", x.witness(2, 0), 1);
        Check.due("the pension is paid", x.pension(0, 0), 0);
        Check.due("the pledge pawned the thing", x.thingOf(0, 3), 2);
        Check.due("the claim is proved, and right 0 is gone", x.prove(7), 1);
        String[] names = {"right", "rent", "lease", "alms", "pension", "debt", "pledge", "claim"};
        for (int kind = 1; kind < 8; kind++) {
            FallenHouses y = land();
            y.right(0, 0, 0, 1, 0, 0, 0, -1);
            y.right(kind, 0, 0, 1, 0, 0, 0, -1);
            Check.read(y, 0, names[kind] + " stand;");
            y.fall(0);
            Check.due(names[kind] + " stands", y.stands(1), 1);
            Check.due("a right doesn't", y.stands(0), 0);
        }
    }

    private static void ofAsTold() {
        Check.sentence(14, "of: DATED of a lease (0 to 3599), the THING of a pledge, the RIGHT of a claim; 0 of others.");
        FallenHouses x = land();
        Check.due("dated 0", x.right(2, 0, 0, 1, 0, 0, 0, -1), 0);
        Check.due("dated 3599", x.right(2, 0, 0, 1, 0, 0, 3599, -1), 1);
        Check.due("the last thing", x.right(6, 2, 0, 1, 0, 0, 2, -1), 2);
        Check.due("against the latest", x.right(7, 0, 0, 1, 0, 0, 2, -1), 3);
        Check.due("against the first", x.right(7, 0, 0, 1, 0, 0, 0, -1), 4);
        int[] of = {0, 3599, 2, 2, 0};
        for (int i = 0; i < of.length; i++) Check.due("rightOf(" + i + ", 7)", x.rightOf(i, 7), of[i]);
        for (int n : Check.noDays()) Check.refused(x, Check.BAD, "dated " + n, y -> y.right(2, 0, 0, 1, 0, 0, n, -1));
        for (int n : Check.outside(0, 2)) Check.refused(x, Check.BAD, "thing " + n, y -> y.right(6, 0, 0, 1, 0, 0, n, -1));
        for (int n : Check.outside(0, 4)) Check.refused(x, Check.BAD, "claim against " + n, y -> y.right(7, 0, 0, 1, 0, 0, n, -1));
        for (int kind : new int[] {0, 1, 3, 4, 5}) {
            for (int n : Check.outside(0, 0)) Check.refused(x, Check.BAD, "of " + n + " with kind " + kind, y -> y.right(kind, 0, 0, 1, 0, 0, n, -1));
        }
        Check.sentence(14, "A lease is DATED (a DAY); a pledge has a THING of its HOUSE, which is PAWNED by it; a claim is against an older "
            + "RIGHT, and may be PROVED on a DAY.");
        Check.due("thingOf(2, 3)", x.thingOf(2, 3), 2);
        Check.refused(x, Check.BAD, "a pledge with a thing of the next house", y -> y.right(6, 0, 0, 1, 0, 0, 1, -1));
        Check.refused(x, Check.BAD, "a pledge with a thing of the house ahead", y -> y.right(6, 1, 0, 1, 0, 0, 0, -1));
        Check.due("a pledge with its own house's", x.right(6, 1, 0, 1, 0, 0, 1, -1), 5);
        Check.due("thingOf(1, 3)", x.thingOf(1, 3), 2);
        Check.refused(x, Check.BAD, "a claim against itself", y -> y.right(7, 0, 0, 1, 0, 0, 6, -1));
        Check.due("a claim against a right of another house", x.right(7, 2, 0, 1, 0, 0, 5, -1), 6);
        Check.due("rightOf(6, 10)", x.rightOf(6, 10), Check.NONE);
    }

    private static void rightRefused() {
        Check.sentence(14, "leans: a RIGHT, or -1.");
        FallenHouses x = land();
        x.right(0, 0, 0, 1, 0, 0, 0, -1);
        for (int n : new int[] {1, -2, -3, 24, Integer.MIN_VALUE, Integer.MAX_VALUE}) {
            Check.refused(x, Check.BAD, "leans " + n, y -> y.right(0, 0, 0, 1, 0, 0, 0, n));
        }
        Check.sentence(14, "BAD: there is no such KIND, HOUSE, PERSON, DAY (either), RIGHT, THING (also one of another HOUSE), to is ahead of "
            + "from, amount or of isn't as told;");
        for (int n : Check.outside(0, 7)) Check.refused(x, Check.BAD, "kind " + n, y -> y.right(n, 0, 0, 1, 0, 0, 0, -1));
        for (int n : Check.outside(0, 2)) Check.refused(x, Check.BAD, "house " + n, y -> y.right(0, n, 0, 1, 0, 0, 0, -1));
        for (int n : Check.outside(0, 1)) Check.refused(x, Check.BAD, "person " + n, y -> y.right(0, 0, n, 1, 0, 0, 0, -1));
        for (int n : Check.outside(1, 999)) Check.refused(x, Check.BAD, "amount " + n, y -> y.right(0, 0, 0, n, 0, 0, 0, -1));
        for (int n : Check.noDays()) {
            Check.refused(x, Check.BAD, "from " + n, y -> y.right(0, 0, 0, 1, n, 3599, 0, -1));
            Check.refused(x, Check.BAD, "to " + n, y -> y.right(0, 0, 0, 1, 0, n, 0, -1));
            Check.refused(x, Check.BAD, "from and to " + n, y -> y.right(0, 0, 0, 1, n, n, 0, -1));
        }
        Check.refused(x, Check.BAD, "to one day ahead of from", y -> y.right(0, 0, 0, 1, 5, 4, 0, -1));
        Check.refused(x, Check.BAD, "to ahead of from", y -> y.right(0, 0, 0, 1, 3599, 0, 0, -1));
        Check.due("to the day of from", x.right(0, 0, 0, 1, 5, 5, 0, -1), 1);
    }

    private static void rightState() {
        Check.sentence(14, "STATE: the HOUSE has FALLEN, or the THING is not there;");
        FallenHouses x = land();
        int[][] things = {{2, 3}, {2, 2}, {3, 4}, {0, 6}, {2, 9}};
        for (int[] t : things) x.thing(1, t[0], t[1]);
        x.house(1, 0, 0, 1);
        x.thing(3, 1, 5);
        x.right(6, 1, 0, 1, 0, 0, 7, -1);
        x.sell(6);
        x.strip(1);
        x.fall(0);
        x.days(10);
        int[][] not = {{4, 5}, {5, 3}, {6, 4}, {7, 2}};
        for (int[] n : not) {
            Check.due("thingOf(" + n[0] + ", 3)", x.thingOf(n[0], 3), n[1]);
            Check.refused(x, Check.STATE, "pledge with thing " + n[0], y -> y.right(6, 1, 0, 1, 0, 0, n[0], -1));
        }
        Check.due("thingOf(8, 3)", x.thingOf(8, 3), 1);
        Check.refused(x, Check.STATE, "pledge with what is hidden", y -> y.right(6, 3, 0, 1, 0, 0, 8, -1));
        Check.due("thingOf(1, 3)", x.thingOf(1, 3), 0);
        Check.due("pledge with what is there", x.right(6, 1, 0, 1, 0, 0, 1, -1), 1);
        Check.refused(x, Check.STATE, "on a fallen house", y -> y.right(0, 0, 0, 1, 0, 0, 0, -1));
        Check.refused(x, Check.STATE, "a pledge on a fallen house", y -> y.right(6, 0, 0, 1, 0, 0, 0, -1));
        Check.refused(x, Check.BAD, "on a fallen house, of an amount that is none", y -> y.right(0, 0, 0, 0, 0, 0, 0, -1));
        Check.refused(x, Check.BAD, "on a fallen house, leaning on none", y -> y.right(0, 0, 0, 1, 0, 0, 0, 2));
        Check.refused(x, Check.BAD, "on a fallen house, of what isn't as told", y -> y.right(0, 0, 0, 1, 0, 0, 1, -1));
        Check.due("leaning on a right of a fallen house", x.right(0, 1, 0, 1, 0, 0, 0, 0), 2);
    }

    private static void rightFull() {
        Check.sentence(14, "or the THING is not there; FULL.");
        FallenHouses x = land();
        for (int i = 0; i < 24; i++) Check.due("right " + i, x.right(0, 0, 0, 1, 0, 0, 0, -1), i);
        Check.refused(x, Check.FULL, "the twenty-fifth", y -> y.right(0, 0, 0, 1, 0, 0, 0, -1));
        Check.refused(x, Check.FULL, "the twenty-fifth, a pledge", y -> y.right(6, 1, 0, 1, 0, 0, 1, -1));
        Check.due("nothing is pawned", x.thingOf(1, 3), 0);
        Check.refused(x, Check.BAD, "full, and of no kind", y -> y.right(8, 0, 0, 1, 0, 0, 0, -1));
        Check.refused(x, Check.BAD, "full, and leaning on none", y -> y.right(0, 0, 0, 1, 0, 0, 0, 24));
        x.sell(1);
        x.fall(0);
        Check.refused(x, Check.FULL, "what is gone takes its room", y -> y.right(0, 1, 0, 1, 0, 0, 0, -1));
        Check.sentence(14, "of several the first named");
        Check.refused(x, Check.STATE, "full, and the thing isn't there", y -> y.right(6, 1, 0, 1, 0, 0, 1, -1));
        Check.refused(x, Check.STATE, "full, and fallen", y -> y.right(0, 0, 0, 1, 0, 0, 0, -1));
        Check.refused(x, Check.BAD, "full, fallen and bad", y -> y.right(0, 0, 2, 1, 0, 0, 0, -1));
    }

    private static void rightOf() {
        Check.sentence(15, "Of a RIGHT: what = 0 KIND, 1 HOUSE, 2 PERSON, 3 AMOUNT, 4 FROM, 5 TO, 6 that on which it LEANS (NONE), 7 of as "
            + "told, 8 from which DAY it is GONE (NONE: it isn't by TODAY), 9 how many HANG on it, 10 the DAY on which it was PROVED "
            + "(NONE; of claims).");
        FallenHouses x = land();
        x.right(2, 1, 1, 33, 4, 40, 17, -1);
        x.right(7, 2, 0, 12, 1, 2, 0, 0);
        x.right(6, 2, 1, 13, 3, 9, 2, 1);
        int[][] of = {{2, 1, 1, 33, 4, 40, Check.NONE, 17, Check.NONE, 2, Check.NONE},
            {7, 2, 0, 12, 1, 2, 0, 0, Check.NONE, 1, Check.NONE}, {6, 2, 1, 13, 3, 9, 1, 2, Check.NONE, 0, Check.NONE}};
        for (int r = 0; r < 3; r++) {
            for (int what = 0; what <= 10; what++) Check.due("rightOf(" + r + ", " + what + ")", x.rightOf(r, what), of[r][what]);
        }
        x.days(6);
        x.prove(1);
        for (int r = 0; r < 3; r++) Check.due("rightOf(" + r + ", 8)", x.rightOf(r, 8), 6);
        int[] proved = {Check.NONE, 6, Check.NONE};
        for (int r = 0; r < 3; r++) Check.due("rightOf(" + r + ", 10)", x.rightOf(r, 10), proved[r]);
        int[] hang = {2, 1, 0};
        for (int r = 0; r < 3; r++) Check.due("rightOf(" + r + ", 9)", x.rightOf(r, 9), hang[r]);
    }

    private static void rightOfRefused() {
        Check.sentence(15, "BAD: there is none such, another what.");
        FallenHouses x = land();
        x.right(0, 0, 0, 1, 0, 0, 0, -1);
        x.right(0, 0, 0, 1, 0, 0, 0, -1);
        for (int r : Check.outside(0, 1)) {
            for (int what = 0; what <= 10; what++) {
                int asked = what;
                Check.refused(x, Check.BAD, "rightOf(" + r + ", " + what + ")", y -> y.rightOf(r, asked));
            }
        }
        for (int what : Check.outside(0, 10)) Check.refused(x, Check.BAD, "rightOf(1, " + what + ")", y -> y.rightOf(1, what));
    }

    private static void gone() {
        Check.sentence(15, "A RIGHT is GONE from a DAY on: that on which its HOUSE FELL, if it doesn't STAND; that on which a claim against "
            + "it was PROVED; that from which the one on which it LEANS is GONE: the first of these.");
        FallenHouses x = land();
        Check.read(x, 0, "rent and claim stand;");
        x.right(1, 0, 0, 1, 0, 0, 0, -1);
        x.right(3, 0, 0, 1, 0, 0, 0, -1);
        x.right(1, 1, 0, 1, 0, 0, 0, 1);
        x.right(1, 2, 0, 1, 0, 0, 0, 2);
        x.right(1, 1, 0, 1, 0, 0, 0, 0);
        x.right(7, 2, 0, 1, 0, 0, 0, -1);
        x.right(7, 2, 0, 1, 0, 0, 1, -1);
        x.right(7, 2, 0, 1, 0, 0, 2, -1);
        x.right(3, 1, 0, 1, 0, 0, 0, 0);
        goneFrom(x, -3, -3, -3, -3, -3, -3, -3, -3, -3);
        x.days(4);
        Check.due("prove(7), against 2", x.prove(7), 2);
        x.days(3);
        x.fall(0);
        // 0 stands, 1 doesn't; 2 leans on 1, but was gone ahead of it
        goneFrom(x, -3, 7, 4, 4, -3, -3, -3, -3, -3);
        x.days(2);
        Check.due("prove(6), against what is gone", x.prove(6), 0);
        goneFrom(x, -3, 7, 4, 4, -3, -3, -3, -3, -3);
        x.fall(1);
        // 8 doesn't stand; 4 does, and leans on what stands
        goneFrom(x, -3, 7, 4, 4, -3, -3, -3, -3, 9);
        x.days(1);
        Check.due("prove(5), against 0", x.prove(5), 2);
        goneFrom(x, 10, 7, 4, 4, 10, -3, -3, -3, 9);
        x.fall(2);
        goneFrom(x, 10, 7, 4, 4, 10, -3, -3, -3, 9);
    }

    private static void goneFrom(FallenHouses x, int... days) {
        int many = 0;
        for (int i = 0; i < days.length; i++) {
            Check.due("rightOf(" + i + ", 8) on " + x.many(0), x.rightOf(i, 8), days[i]);
            if (days[i] != Check.NONE) many++;
        }
        Check.due("many(14)", x.many(14), many);
    }

    private static void goneAtOnce() {
        Check.sentence(15, "8 from which DAY it is GONE (NONE: it isn't by TODAY)");
        FallenHouses x = land();
        x.right(0, 0, 0, 1, 0, 0, 0, -1);
        x.right(0, 1, 0, 1, 0, 0, 0, 0);
        x.fall(0);
        goneFrom(x, 0, 0);
        x.fall(1);
        goneFrom(x, 0, 0);
        // what comes later leans on what is gone already
        x.days(5);
        x.right(0, 2, 0, 1, 0, 0, 0, 1);
        goneFrom(x, 0, 0, 0);
        FallenHouses z = land();
        z.right(0, 0, 0, 1, 0, 3, 0, -1);
        z.days(400);
        Check.due("TO is past, but it isn't gone", z.rightOf(0, 8), Check.NONE);
    }

    private static void hangs() {
        Check.sentence(16, "HANGS on a RIGHT: those that LEAN on it, and what HANGS on these (each once).");
        FallenHouses x = land();
        int[] leans = {-1, 0, 0, -1, 2, 4, 3, 1, 5};
        for (int i = 0; i < leans.length; i++) x.right(0, i % 3, 0, 1, 0, 0, 0, leans[i]);
        // a claim against 0 doesn't lean on it
        x.right(7, 0, 0, 1, 0, 0, 0, -1);
        int[] bits = {2 + 4 + 16 + 32 + 128 + 256, 128, 16 + 32 + 256, 64, 32 + 256, 256, 0, 0, 0, 0};
        for (int i = 0; i < bits.length; i++) {
            Check.due("hangs(" + i + ")", x.hangs(i), bits[i]);
            Check.due("rightOf(" + i + ", 9)", x.rightOf(i, 9), Integer.bitCount(bits[i]));
        }
        FallenHouses chain = land();
        for (int i = 0; i < 24; i++) chain.right(0, 0, 0, 1, 0, 0, 0, i - 1);
        Check.due("a chain of 24", chain.hangs(0), 0xfffffe);
        Check.due("its last but one", chain.hangs(22), 1 << 23);
        Check.due("its last", chain.hangs(23), 0);
        Check.sentence(16, "HANGS on a RIGHT, as bits. BAD.");
        for (int r : Check.outside(0, 9)) Check.refused(x, Check.BAD, "hangs(" + r + ")", y -> y.hangs(r));
        x.fall(0);
        Check.due("hangs(0), gone", x.hangs(0), bits[0]);
    }

    private static void prove() {
        Check.sentence(17, "A claim is PROVED TODAY: how many RIGHTS are GONE TODAY that weren't.");
        FallenHouses x = land();
        x.right(0, 0, 0, 1, 0, 0, 0, -1);
        for (int i = 0; i < 3; i++) x.right(0, 1, 0, 1, 0, 0, 0, i);
        x.right(0, 1, 0, 1, 0, 0, 0, 0);
        x.right(7, 2, 0, 1, 0, 0, 2, -1);
        x.right(7, 2, 0, 1, 0, 0, 0, 4);
        x.right(7, 2, 0, 1, 0, 0, 0, -1);
        x.right(7, 2, 0, 1, 0, 0, 5, -1);
        x.days(2);
        Check.due("prove(5): 2 and 3", x.prove(5), 2);
        x.days(1);
        // 0, 1, 4, and the claim itself, that leans on 4
        Check.due("prove(6): 0 and what hangs on it, but for 2 and 3", x.prove(6), 4);
        Check.due("rightOf(6, 8), by what it proved", x.rightOf(6, 8), 3);
        Check.due("prove(7): none", x.prove(7), 0);
        Check.due("rightOf(7, 10)", x.rightOf(7, 10), 3);
        Check.due("prove(8): the claim that was proved", x.prove(8), 1);
        goneFrom(x, 3, 3, 2, 2, 3, 3, 3, -3, -3);
        FallenHouses last = land();
        Check.until(last, 3599);
        last.right(0, 0, 0, 1, 0, 0, 0, -1);
        last.right(7, 0, 0, 1, 0, 0, 0, -1);
        Check.due("prove(1) on the last day", last.prove(1), 1);
        Check.due("rightOf(1, 10)", last.rightOf(1, 10), 3599);
    }

    private static void proveRefused() {
        Check.sentence(17, "BAD: there is no such RIGHT; STATE: it is no claim, was PROVED already, or is GONE.");
        FallenHouses x = land();
        x.thing(0, 0, 1);
        for (int kind = 0; kind < 7; kind++) x.right(kind, 0, 0, 1, 0, 0, 0, -1);
        x.right(7, 1, 0, 1, 0, 0, 0, -1);
        x.right(7, 2, 0, 1, 0, 0, 0, -1);
        x.right(7, 2, 0, 1, 0, 0, 8, -1);
        x.right(7, 0, 0, 1, 0, 0, 1, -1);
        for (int r : Check.outside(0, 10)) Check.refused(x, Check.BAD, "prove(" + r + ")", y -> y.prove(r));
        for (int kind = 0; kind < 7; kind++) {
            int right = kind;
            Check.refused(x, Check.STATE, "prove(" + kind + "), no claim", y -> y.prove(right));
        }
        Check.due("prove(7)", x.prove(7), 1);
        Check.refused(x, Check.STATE, "prove(7) again", y -> y.prove(7));
        x.days(1);
        Check.refused(x, Check.STATE, "prove(7) later", y -> y.prove(7));
        x.prove(9);
        Check.refused(x, Check.STATE, "prove(8), gone by a claim", y -> y.prove(8));
        x.fall(0);
        Check.refused(x, Check.STATE, "prove(10), gone by a fall", y -> y.prove(10));
        x.right(0, 1, 0, 1, 0, 0, 0, -1);
        x.right(7, 1, 0, 1, 0, 0, 11, 3);
        Check.refused(x, Check.STATE, "prove(12), gone with what it leans on", y -> y.prove(12));
        Check.due("rightOf(11, 8)", x.rightOf(11, 8), Check.NONE);
    }

    private static void provesNothing() {
        Check.sentence(17, "(A claim that is GONE proves nothing from then on, but what it proved stays so.)");
        FallenHouses x = land();
        x.right(0, 0, 0, 1, 0, 0, 0, -1);
        x.right(0, 0, 0, 1, 0, 0, 0, -1);
        x.right(7, 1, 0, 1, 0, 0, 0, -1);
        x.right(7, 2, 0, 1, 0, 0, 2, -1);
        x.right(7, 1, 0, 1, 0, 0, 1, -1);
        x.days(1);
        x.prove(2);
        x.days(1);
        Check.due("prove(3), against the claim", x.prove(3), 1);
        goneFrom(x, 1, -3, 2, -3, -3);
        x.days(1);
        x.fall(1);
        // the claims on house 1 don't stand: 4 proves nothing any more, 2 proved
        goneFrom(x, 1, -3, 2, -3, 3);
        ToIntFunction<FallenHouses> prove = y -> y.prove(4);
        Check.refused(x, Check.STATE, "prove(4)", prove);
        goneFrom(x, 1, -3, 2, -3, 3);
    }
}
