/** Promises 18 to 21, sentence by sentence: THE TAPE, TEXTS and their FAULTS, VERSIONS. */
final class TextEdgesTest {
    public static void main(String[] args) {
        feed();
        tapeFull();
        readUsesUp();
        acts();
        rulesAtMost();
        rules();
        kinds();
        conds();
        numbers();
        rows();
        blanks();
        brackets();
        faults();
        readRefused();
        versionsFull();
        strike();
        version();
        inForce();
        Check.finish();
    }

    private static void feed() {
        Check.sentence(18, "n bytes (1 to 8) come to THE TAPE, the lowest of eight first: how many it has.");
        FallenHouses x = new FallenHouses();
        // bytes above the n lowest don't come: they would be faults
        Check.due("feed(.., 1)", x.feed(eight("rZZZZZZZ"), 1), 1);
        Check.due("feed(.., 8)", x.feed(eight("ight fal"), 8), 9);
        Check.due("feed(.., 2)", x.feed(eight("l;ZZZZZZ"), 2), 11);
        Check.due("read(0)", x.read(0), 0);
        Check.due("version(0, 10)", x.version(0, 10), 1001);
        int[] sizes = {1, 2, 3, 4, 5, 6, 7, 8};
        int many = 0;
        for (int n : sizes) {
            many += n;
            Check.due("feed(blanks, " + n + ")", x.feed(0x2020202020202020L, n), many);
        }
        String text = "right and rent fall;";
        for (int i = 0; i < text.length(); i++) x.feed(0x5a5a5a5a5a5a5a00L | text.charAt(i), 1);
        Check.due("many(11)", x.many(11), many + text.length());
        Check.due("read(0), one by one", x.read(0), 1);
        Check.due("version(1, 10)", x.version(1, 10), 1003);
        Check.due("read(0), eight by eight", Check.read(x, 0, "alms and pension stand;"), 2);
        Check.due("version(2, 10)", x.version(2, 10), 24);
        // the highest byte of eight is a sign of its own, too
        Check.due("feed(.., 8)", x.feed(0x80L << 56 | 0x20202020202020L, 8), 8);
        Check.due("read(0), byte 128", x.read(0), -107);
        Check.sentence(18, "BAD;");
        for (int n : Check.outside(1, 8)) Check.refused(x, Check.BAD, "feed(0, " + n + ")", y -> y.feed(0, n));
        Check.refused(x, Check.BAD, "feed(0, -1)", y -> y.feed(0, -1));
    }

    private static long eight(String signs) {
        long number = 0;
        for (int i = 7; i >= 0; i--) number = number << 8 | signs.charAt(i);
        return number;
    }

    private static void tapeFull() {
        Check.sentence(18, "THE TAPE takes bytes, 300 at most; read() uses it up.");
        FallenHouses x = new FallenHouses();
        for (int i = 1; i <= 37; i++) Check.due("feed", x.feed(0x2020202020202020L, 8), 8 * i);
        Check.sentence(18, "FULL: more than 300.");
        Check.refused(x, Check.FULL, "feed(.., 8) on 296", y -> y.feed(0x2020202020202020L, 8));
        Check.refused(x, Check.FULL, "feed(.., 5) on 296", y -> y.feed(0x2020202020202020L, 5));
        Check.due("feed(.., 4) on 296", x.feed(0x3b3b3b3b20202020L, 4), 300);
        for (int n = 1; n <= 8; n++) {
            int size = n;
            Check.refused(x, Check.FULL, "feed(.., " + n + ") on 300", y -> y.feed(0, size));
        }
        Check.refused(x, Check.BAD, "feed(.., 9) on 300", y -> y.feed(0, 9));
        Check.refused(x, Check.BAD, "feed(.., 0) on 300", y -> y.feed(0, 0));
        Check.due("read(0), blanks alone", x.read(0), 0);
        Check.due("feed(.., 1), used up", x.feed(0x20, 1), 1);
        x.read(0);
        // a whole tape, with a fault as its last byte, and one that ends too early
        x = new FallenHouses();
        Check.feed(x, " ".repeat(299) + ",");
        Check.due("read(0)", x.read(0), -399);
        Check.feed(x, " ".repeat(295) + "right");
        Check.due("read(0)", x.read(0), -400);
    }

    private static void readUsesUp() {
        Check.sentence(19, "Answers below 0, where not told otherwise, are refusals; such a call changes nothing (but that read() uses THE "
            + "TAPE up, whatever it answers)");
        int[][] reads = {{0, 0}, {4, -1}, {-1, -1}, {Integer.MAX_VALUE, -1}, {Integer.MIN_VALUE, -1}};
        for (int[] r : reads) {
            FallenHouses x = new FallenHouses();
            Check.feed(x, "right stand;");
            Check.due("read(" + r[0] + ")", x.read(r[0]), r[1]);
            Check.due("many(11)", x.many(11), 0);
            Check.due("many(5)", x.many(5), r[1] == 0 ? 1 : 0);
            Check.due("read(1), of nothing", x.read(1), r[1] + 1);
        }
        FallenHouses x = new FallenHouses();
        Check.read(x, 2, "debt stand;");
        Check.feed(x, "right");
        Check.due("read(2), a fault", x.read(2), -105);
        Check.due("many(11)", x.many(11), 0);
        Check.due("many(5)", x.many(5), 1);
        Check.due("version(0, 3), a fault ends no version", x.version(0, 3), Check.NONE);
    }

    private static void acts() {
        Check.sentence(19, "ACTS 0 to 3 are TEXTS.");
        FallenHouses x = new FallenHouses();
        for (int act = 0; act < 4; act++) Check.due("read(" + act + ")", Check.read(x, act, "right stand;"), act);
        for (int act = 0; act < 4; act++) Check.due("version(" + act + ", 0)", x.version(act, 0), act);
        Check.sentence(19, "THE TAPE is the TEXT of an ACT: the number of the VERSION; -100 less its FAULT.");
        Check.due("read(3)", Check.read(x, 3, "lease fall;"), 4);
        Check.due("read(3), a fault at 0", Check.read(x, 3, ","), -100);
        Check.due("read(3), a fault at 1", Check.read(x, 3, " ,"), -101);
        Check.due("many(5)", x.many(5), 5);
    }

    private static void rulesAtMost() {
        Check.sentence(19, "TEXT: { RULE ; }, 10 RULES at most.");
        for (int n = 0; n <= 10; n++) {
            FallenHouses x = new FallenHouses();
            Check.due("read " + n + " rules", Check.read(x, 0, "alms fall;".repeat(n)), 0);
            Check.due("version(0, 1)", x.version(0, 1), n);
        }
        fault("alms fall;".repeat(10) + "alms fall;", 100);
        fault("alms fall;".repeat(10) + " alms", 101);
        fault("alms fall;".repeat(10) + "x", 100);
        fault("alms fall;".repeat(10) + ";", 100);
        fault("alms fall;".repeat(10) + "7", 100);
        fits("alms fall;".repeat(10) + "   ");
        fault("alms fall", 9);
        fault("alms fall alms fall;", 10);
        fault(";", 0);
        fault("alms fall;;", 10);
    }

    private static void rules() {
        Check.sentence(19, "RULE: KINDS stand [ if COND ] | KINDS fall [ if COND ] | KINDS rank N [ if COND ]");
        fits("right stand;right fall;right rank 0;");
        fits("right stand if held;right fall if held;right rank 0 if held;");
        fault("right;", 5);
        fault("right if held;", 6);
        fault("right stand fall;", 12);
        fault("right claim;", 6);
        fault("right not;", 6);
        fault("right stand 3;", 12);
        fault("right rank;", 10);
        fault("right rank if held;", 11);
        fault("right rank 3 3;", 13);
        fault("right rank held;", 11);
        fault("right stand held;", 12);
        fault("right stand if;", 14);
        fault("right stand if if held;", 15);
        fault("right stand if held if held;", 20);
        fault("stand right;", 0);
        fault("if held right stand;", 0);
    }

    private static void kinds() {
        Check.sentence(19, "KINDS: KIND { and KIND } KIND: right | rent | lease | alms | pension | debt | pledge | claim");
        String[] names = {"right", "rent", "lease", "alms", "pension", "debt", "pledge", "claim"};
        FallenHouses x = new FallenHouses();
        StringBuilder all = new StringBuilder();
        for (int i = 0; i < 8; i++) all.append(i == 0 ? "" : ";").append(names[i]).append(" fall");
        Check.due("read", Check.read(x, 0, all + ";"), 0);
        for (int i = 0; i < 8; i++) Check.due("version(0, " + (10 + i) + ")", x.version(0, 10 + i), 1000 + (1 << i));
        Check.due("read", Check.read(x, 1, String.join(" and ", names) + " stand;"), 1);
        Check.due("version(1, 10)", x.version(1, 10), 255);
        Check.due("read", Check.read(x, 2, "claim and claim and claim stand;"), 2);
        Check.due("version(2, 10)", x.version(2, 10), 128);
        fault("and right stand;", 0);
        fault("right and stand;", 10);
        fault("right and and rent stand;", 10);
        fault("right rent stand;", 6);
        fault("right or rent stand;", 6);
        fault("right and", 9);
        fault("rights stand;", 0);
        fault("righ stand;", 0);
        fault("right and leas stand;", 10);
        fault("stand stand;", 0);
        fault("held stand;", 0);
    }

    private static void conds() {
        Check.sentence(19, "COND: ALL { or ALL } ALL: ONE { and ONE } "
            + "ONE: { not } ( order N | amount above N | dated within N | held | \"(\" COND \")\" )");
        for (String cond : new String[] {"held", "not held", "not not not held", "order 1", "amount above 1", "dated within 1", "(held)",
            "not(not(held))", "held or held", "held and held", "held and held or not held and not(held or held)",
            "order 1 or amount above 2 and dated within 3"}) fits("right stand if " + cond + ";");
        String[] wrong = {"or held", "and held", "held or", "held and", "held or or held", "held and or held", "held held", "held not",
            "not", "not or held", "(held", "held)", "()", "(held or)", "(held))", "order", "order held", "amount 5", "amount above",
            "amount within 5", "dated above 5", "dated 5", "dated within", "above 5", "within 5", "stand", "right", "held 5", "not;",
            "5", "held, held", "if held"};
        int[] at = {0, 0, 7, 8, 8, 9, 5, 5, 3, 4, 5, 4, 1, 8, 6, 5, 6, 7, 12, 7, 6, 6, 12, 0, 0, 0, 0, 5, 3, 0, 4, 0};
        for (int i = 0; i < wrong.length; i++) fault("right stand if " + wrong[i] + ";", 15 + at[i]);
        String[] early = {"amount", "dated", "order", "not", "(", "((", "not (", "held and (", "held or not"};
        for (String begun : early) {
            for (String end : new String[] {";", " and held;", " or held;"}) {
                fault("right stand if " + begun + end, 15 + begun.length() + (end.length() > 1 ? 1 : 0));
            }
        }
    }

    private static void numbers() {
        Check.sentence(19, "N are NUMBERS 0 to 999 (of rank 0 to 9, of order 0 to 3).");
        fits("right rank 0;right rank 9;");
        fault("right rank 10;", 11);
        fault("right rank 999;", 11);
        fits("right stand if order 0;right stand if order 3;");
        fault("right stand if order 4;", 21);
        fault("right stand if order 10;", 21);
        for (String ask : new String[] {"amount above ", "dated within "}) {
            fits("right stand if " + ask + "0;right stand if " + ask + "999;");
            fault("right stand if " + ask + "1000;", 28);
            fault("right stand if " + ask + "0999;", 28);
            fault("right stand if " + ask + "-1;", 28);
            fault("right stand if " + ask + "99999999999;", 28);
        }
    }

    private static void rows() {
        Check.sentence(19, "NAMES are rows of letters a to z, NUMBERS rows of digits (1 to 3), both as long as they go;");
        fits("right rank 009;");
        fits("right rank 3if order0or order 003and amount above 9;");
        fault("right rank 0009;", 11);
        fault("right rank 3333;", 11);
        fault("right rank 3 333;", 13);
        fault("rightstand;", 0);
        fault("right standif held;", 6);
        fault("right stand ifheld;", 12);
        fault("right stand if notheld;", 15);
        fault("right stand if held orheld;", 20);
        fault("rig ht stand;", 0);
        fault("rightz stand;", 0);
        fault("zright stand;", 0);
        fault("right astand;", 6);
        fault("right standa;", 6);
        fault("right stand if amount above 9 9;", 30);
        fault("right stand if amountabove 9;", 15);
        fault("Right stand;", 0);
        fault("right Stand;", 6);
        fault("right `stand;", 6);
        fault("right {stand;", 6);
        fault("right rank /;", 11);
        fault("right rank :;", 11);
        fault("right stand5;", 11);
        fault("5right stand;", 0);
    }

    private static void blanks() {
        Check.sentence(19, "blanks (32) part them, and stand elsewhere as one likes.");
        fits("");
        fits("        ");
        fits("   right   and   rent   stand   if   (   held   )   ;   ");
        fits("right stand if(held)and(not(held))or held;rent fall;");
        for (int sign : new int[] {0, 9, 10, 13, 31, 33, 160, 255}) fault("right" + (char) sign + "stand;", 5);
        fault("right\tstand;", 5);
        fault("right stand\n;", 11);
        // no byte but the blank stands where a KIND, a NUMBER, a COND, ; or nothing may
        for (int sign = 0; sign < 256; sign++) {
            if (sign == ' ') continue;
            fault((char) sign + " stand;", 0);
            if (sign != ';') fault("right stand " + (char) sign, 12);
            if (sign != ';') fault("right rank 9 " + (char) sign + ";", 13);
            if (sign < '0' || sign > '9') fault("right rank " + (char) sign + ";", 11);
            if (sign != '(') fault("right stand if " + (char) sign + ";", 15);
            if (sign != ';') fault("right stand if held " + (char) sign, 20);
            fault("right stand;" + (char) sign, 12);
        }
    }

    private static void brackets() {
        Check.sentence(19, "At most 4 \"(\" are open within one another.");
        fits("right stand if ((((held))));");
        fits("right stand if ((((held))))and((((held))))or(held or(held and(held or(held))));");
        fits("right stand if (held)and(held)and(held)and(held)and(held)and(held);");
        fault("right stand if (((((held)))));", 19);
        fault("right stand if ((((held)))) and (((((held)))));", 36);
        fault("right stand if (held or(held and(held or(held or(held)))));", 48);
        fault("right stand if (not(not(not(not(held)))));", 31);
    }

    private static void faults() {
        Check.sentence(19, "FAULT: the place (from 0) of the first byte of the first NAME, NUMBER or other byte that can't stand there (a NUMBER "
            + "that is not as told, the fifth \"(\", the first NAME of the eleventh RULE, too), or the end (how many bytes there are), if "
            + "more must come.");
        fault("stand", 0);
        fault("   standing", 3);
        fault("right stand if heldheld;", 15);
        fault("right rank 12345", 11);
        fault("right stand if (((((", 19);
        fault("alms fall;".repeat(10) + "  stand", 102);
        fault("right, rent stand,", 5);
        String whole = "right and rent rank 5 if not (order 1 or held) and amount above 7 or dated within 30";
        String[] cuts = {"right", "right and", "right and rent", "right and rent rank", "right and rent rank 5",
            "right and rent rank 5 if", "right and rent rank 5 if not", "right and rent rank 5 if not (",
            "right and rent rank 5 if not (order", "right and rent rank 5 if not (order 1",
            "right and rent rank 5 if not (order 1 or held", "right and rent rank 5 if not (order 1 or held)", whole};
        for (String cut : cuts) {
            fault(cut, cut.length());
            fault(cut + "   ", cut.length() + 3);
            fault(cut + ",", cut.length());
        }
        fits(whole + ";");
    }

    private static void readRefused() {
        Check.sentence(19, "BAD: there is no such ACT;");
        for (int act : Check.outside(0, 3)) {
            FallenHouses x = new FallenHouses();
            Check.due("read(" + act + ")", Check.read(x, act, "right stand;"), Check.BAD);
            Check.due("read(" + act + "), ahead of a fault", Check.read(x, act, "right"), Check.BAD);
            Check.due("many(5)", x.many(5), 0);
        }
    }

    private static void versionsFull() {
        Check.sentence(19, "FULL (behind a FAULT).");
        FallenHouses x = new FallenHouses();
        for (int i = 0; i < 12; i++) Check.due("read", Check.read(x, i % 4, "right stand;"), i);
        Check.feed(x, "right stand;");
        Check.due("read(1), the thirteenth", x.read(1), Check.FULL);
        Check.due("many(11)", x.many(11), 0);
        Check.due("read(1), empty", x.read(1), Check.FULL);
        Check.due("read(1), full and a fault", Check.read(x, 1, "right stand"), -111);
        Check.due("read(4), full and a fault", Check.read(x, 4, "right stand"), Check.BAD);
        Check.due("version(9, 3), it is still in force", x.version(9, 3), Check.NONE);
        Check.sentence(19, "An ACT that is read is a VERSION (12 at most, numbered as they come), in force from TODAY on");
        Check.due("many(5)", x.many(5), 12);
        x.strike(1);
        Check.due("read(1), what is struck takes its room", Check.read(x, 1, "right stand;"), Check.FULL);
        for (int i = 0; i < 12; i++) Check.due("version(" + i + ", 0)", x.version(i, 0), i % 4);
    }

    private static void strike() {
        Check.sentence(20, "An ACT is STRUCK: the VERSION that was in force.");
        FallenHouses x = new FallenHouses();
        Check.read(x, 0, "right stand;");
        Check.read(x, 3, "right stand;");
        x.days(2);
        Check.read(x, 3, "right stand;");
        Check.due("strike(3)", x.strike(3), 2);
        Check.due("version(2, 3)", x.version(2, 3), 2);
        Check.due("version(1, 3)", x.version(1, 3), 2);
        Check.due("version(0, 3)", x.version(0, 3), Check.NONE);
        Check.sentence(20, "NONE: it has none in force TODAY.");
        Check.refused(x, Check.NONE, "strike(3) again", y -> y.strike(3));
        Check.refused(x, Check.NONE, "strike(1), never read", y -> y.strike(1));
        x.days(1);
        Check.refused(x, Check.NONE, "strike(3) later", y -> y.strike(3));
        Check.due("version(2, 3)", x.version(2, 3), 2);
        Check.due("strike(0)", x.strike(0), 0);
        Check.due("version(0, 3)", x.version(0, 3), 3);
        Check.sentence(20, "BAD: there is no such ACT;");
        for (int act : Check.outside(0, 3)) Check.refused(x, Check.BAD, "strike(" + act + ")", y -> y.strike(act));
    }

    private static void version() {
        Check.sentence(21, "Of a VERSION: what = 0 ACT, 1 how many RULES, 2 from which DAY in force, 3 from which no more (NONE), 10 + i RULE i: "
            + "1000 times 0 stand, 1 fall, 2 rank, and its KINDS as bits (as told, not those under them), 30 + i the N of a rank (NONE of "
            + "others).");
        FallenHouses x = new FallenHouses();
        x.days(3);
        Check.read(x, 2, "right stand; rent and debt fall if held; right and claim rank 0; pledge rank 9 if held; alms fall; lease fall; "
            + "pension stand if not held; claim stand; debt and debt rank 4; pledge and lease rank 7;");
        x.days(4);
        Check.read(x, 2, "");
        int[] of = {2, 10, 3, 7};
        for (int what = 0; what < 4; what++) Check.due("version(0, " + what + ")", x.version(0, what), of[what]);
        int[] rules = {1, 1034, 2129, 2064, 1008, 1004, 16, 128, 2032, 2068};
        int[] ranks = {-3, -3, 0, 9, -3, -3, -3, -3, 4, 7};
        for (int i = 0; i < 10; i++) {
            Check.due("version(0, " + (10 + i) + ")", x.version(0, 10 + i), rules[i]);
            Check.due("version(0, " + (30 + i) + ")", x.version(0, 30 + i), ranks[i]);
        }
        int[] empty = {2, 0, 7, Check.NONE};
        for (int what = 0; what < 4; what++) Check.due("version(1, " + what + ")", x.version(1, what), empty[what]);
        Check.sentence(21, "BAD: there is none such, another what.");
        for (int v : Check.outside(0, 1)) {
            for (int what : new int[] {0, 1, 2, 3, 10, 30}) Check.refused(x, Check.BAD, "version(" + v + ", " + what + ")", y -> y.version(v, what));
        }
        for (int what : new int[] {-1, 4, 9, 20, 29, 40, Integer.MIN_VALUE, Integer.MAX_VALUE}) {
            Check.refused(x, Check.BAD, "version(0, " + what + ")", y -> y.version(0, what));
        }
        for (int what : new int[] {10, 30}) Check.refused(x, Check.BAD, "version(1, " + what + "), no rule", y -> y.version(1, what));
        Check.read(x, 0, "alms rank 5;");
        Check.due("version(2, 10)", x.version(2, 10), 2008);
        Check.due("version(2, 30)", x.version(2, 30), 5);
        for (int what : new int[] {11, 31}) Check.refused(x, Check.BAD, "version(2, " + what + "), no second rule", y -> y.version(2, what));
    }

    private static void inForce() {
        Check.sentence(21, "in force from TODAY on, till ahead of the DAY on which that ACT is read anew or STRUCK.");
        FallenHouses x = new FallenHouses();
        Check.read(x, 0, "right stand;");
        Check.read(x, 1, "right stand;");
        Check.read(x, 0, "right stand;");
        int[][] days = {{0, 0}, {0, -3}, {0, -3}};
        for (int v = 0; v < 3; v++) {
            for (int i = 0; i < 2; i++) Check.due("version(" + v + ", " + (2 + i) + ")", x.version(v, 2 + i), days[v][i]);
        }
        Check.until(x, 3599);
        Check.read(x, 0, "");
        Check.due("version(2, 3)", x.version(2, 3), 3599);
        Check.due("version(3, 2)", x.version(3, 2), 3599);
        Check.due("strike(1)", x.strike(1), 1);
        Check.due("version(1, 3)", x.version(1, 3), 3599);
        Check.due("version(0, 3), as it was", x.version(0, 3), 0);
    }

    private static void fits(String text) {
        FallenHouses x = new FallenHouses();
        Check.due("read \"" + text + "\"", Check.read(x, 0, text), 0);
    }

    private static void fault(String text, int place) {
        FallenHouses x = new FallenHouses();
        Check.due("bytes of \"" + text + "\"", text.isEmpty() ? 0 : Check.feed(x, text), text.length());
        Check.due("read \"" + text + "\"", x.read(0), -100 - place);
        Check.due("versions behind a fault", x.many(5), 0);
    }
}
