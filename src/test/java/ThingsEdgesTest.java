/** Promises 9 to 13, sentence by sentence: each bound with what is on it and what is behind it. */
final class ThingsEdgesTest {
    public static void main(String[] args) {
        thing();
        thingRefused();
        thingFull();
        thingOf();
        sell();
        sellRefused();
        show();
        showByWhom();
        strip();
        stripOnce();
        Check.finish();
    }

    private static void thing() {
        Check.sentence(9, "A THING, there: its number.");
        FallenHouses x = new FallenHouses();
        x.house(0, 0, 0, 1);
        x.house(0, 0, 0, 1);
        Check.due("thing(1, 3, 99)", x.thing(1, 3, 99), 0);
        Check.due("thing(0, 0, 1)", x.thing(0, 0, 1), 1);
        Check.due("thingOf(0, 3)", x.thingOf(0, 3), 0);
        Check.sentence(9, "THINGS, 24 at most, numbered as they come: of a HOUSE, of a KIND (0 bell, 1 plate, 2 book, 3 lead), "
            + "with a WORTH (1 to 99).");
        for (int i = 2; i < 24; i++) Check.due("thing " + i, x.thing(i % 2, i % 4, 4 * i + 3), i);
        for (int i = 2; i < 24; i++) {
            Check.due("thingOf(" + i + ", 0)", x.thingOf(i, 0), i % 2);
            Check.due("thingOf(" + i + ", 1)", x.thingOf(i, 1), i % 4);
            Check.due("thingOf(" + i + ", 2)", x.thingOf(i, 2), 4 * i + 3);
        }
        Check.refused(x, Check.FULL, "the twenty-fifth", y -> y.thing(0, 0, 1));
    }

    private static void thingRefused() {
        Check.sentence(9, "BAD: there is no such HOUSE, KIND, or worth isn't as told;");
        FallenHouses x = new FallenHouses();
        x.house(0, 0, 0, 1);
        x.house(0, 0, 0, 1);
        for (int h : Check.outside(0, 1)) Check.refused(x, Check.BAD, "thing(" + h + ", 0, 1)", y -> y.thing(h, 0, 1));
        for (int kind : Check.outside(0, 3)) Check.refused(x, Check.BAD, "thing(0, " + kind + ", 1)", y -> y.thing(0, kind, 1));
        for (int worth : Check.outside(1, 99)) Check.refused(x, Check.BAD, "thing(0, 0, " + worth + ")", y -> y.thing(0, 0, worth));
        Check.sentence(9, "STATE: the HOUSE has FALLEN;");
        x.fall(1);
        Check.refused(x, Check.STATE, "thing(1, 0, 1)", y -> y.thing(1, 0, 1));
        Check.due("thing(0, 0, 1), the other house", x.thing(0, 0, 1), 0);
        Check.refused(x, Check.BAD, "thing(1, 4, 1), fallen, too", y -> y.thing(1, 4, 1));
        Check.refused(x, Check.BAD, "thing(1, 0, 0), fallen, too", y -> y.thing(1, 0, 0));
    }

    private static void thingFull() {
        Check.sentence(9, "FULL.");
        FallenHouses x = new FallenHouses();
        x.house(0, 0, 0, 1);
        x.house(0, 0, 0, 1);
        for (int i = 0; i < 24; i++) x.thing(1, 3, 1);
        x.strip(1);
        Check.refused(x, Check.FULL, "thing(0, 0, 1), melted things take their room", y -> y.thing(0, 0, 1));
        Check.due("many(3)", x.many(3), 24);
        Check.sentence(9, "of several the first named: BAD (-1) there is no such thing, or a number is not as told; FULL (-2); NONE (-3); "
            + "STATE (-4);");
        x.fall(1);
        Check.refused(x, Check.BAD, "thing(0, 0, 100), full", y -> y.thing(0, 0, 100));
        Check.refused(x, Check.BAD, "thing(1, 0, 100), full and fallen", y -> y.thing(1, 0, 100));
        Check.refused(x, Check.BAD, "thing(2, 0, 1), full", y -> y.thing(2, 0, 1));
        // of STATE and FULL the one that the promise names first
        Check.refused(x, Check.STATE, "thing(1, 0, 1), full and fallen", y -> y.thing(1, 0, 1));
    }

    private static void thingOf() {
        Check.sentence(10, "Of a THING: what = 0 HOUSE, 1 KIND, 2 WORTH, 3 what it is (0 to 5), 4 1 if a tenant SHOWED it, else 0.");
        FallenHouses x = new FallenHouses();
        x.person(0);
        x.house(0, 0, 0, 9);
        x.house(0, 0, 0, 1);
        x.thing(0, 0, 8);
        for (int[] t : new int[][] {{0, 10}, {1, 50}, {0, 20}, {3, 30}, {0, 40}, {2, 9}}) x.thing(1, t[0], t[1]);
        x.right(2, 1, 0, 1, 0, 0, 0, -1);
        int[] last = {1, 2, 9, 0, 0};
        for (int what = 0; what < 5; what++) Check.due("thingOf(6, " + what + ")", x.thingOf(6, what), last[what]);
        Check.sentence(10, "A THING is 0 there, 1 HIDDEN, 2 PAWNED, 3 MELTED, 4 SOLD, 5 ROTTED.");
        x.right(6, 1, 0, 1, 0, 0, 3, -1);
        x.strip(1);
        x.sell(5);
        x.fall(0);
        x.days(1);
        x.show(2, 0);
        x.days(9);
        int[] are = {0, 0, 1, 2, 3, 4, 5};
        for (int i = 0; i < are.length; i++) {
            Check.due("thingOf(" + i + ", 3)", x.thingOf(i, 3), are[i]);
            Check.due("thingOf(" + i + ", 4)", x.thingOf(i, 4), i == 2 ? 1 : 0);
        }
        Check.sentence(10, "BAD: there is none such, another what.");
        for (int i : Check.outside(0, 6)) Check.refused(x, Check.BAD, "thingOf(" + i + ", 0)", y -> y.thingOf(i, 0));
        for (int what : Check.outside(0, 4)) Check.refused(x, Check.BAD, "thingOf(6, " + what + ")", y -> y.thingOf(6, what));
    }

    private static void sell() {
        Check.sentence(11, "A THING that is there is SOLD (by its WORTH; of a FALLEN HOUSE, too): its HOUSE's COIN then (9999 at most).");
        FallenHouses x = new FallenHouses();
        x.house(0, 0, 9899, 1);
        x.house(0, 0, 0, 9);
        x.thing(0, 0, 99);
        x.thing(0, 1, 1);
        x.thing(0, 2, 1);
        x.thing(1, 3, 7);
        x.thing(1, 3, 8);
        Check.due("sell(0)", x.sell(0), 9998);
        Check.due("sell(1), just as much", x.sell(1), 9999);
        Check.due("sell(2), one above", x.sell(2), 9999);
        Check.due("houseOf(0, 2)", x.houseOf(0, 2), 9999);
        Check.due("thingOf(2, 3)", x.thingOf(2, 3), 4);
        x.fall(1);
        Check.due("sell(3), of a fallen house", x.sell(3), 7);
        Check.due("houseOf(1, 2)", x.houseOf(1, 2), 7);
        Check.due("thingOf(3, 3)", x.thingOf(3, 3), 4);
        FallenHouses y = new FallenHouses();
        y.house(0, 0, 9999, 1);
        y.thing(0, 0, 99);
        Check.due("sell(0), coin is 9999 already", y.sell(0), 9999);
        Check.due("what it had counts no more than that", y.fall(0), 9999);
    }

    private static void sellRefused() {
        Check.sentence(11, "BAD: there is no such THING;");
        FallenHouses x = new FallenHouses();
        x.person(0);
        x.house(0, 0, 0, 1);
        x.house(0, 0, 0, 9);
        for (int kind : new int[] {1, 0, 3, 0, 2}) x.thing(0, kind, 5);
        for (int t : Check.outside(0, 4)) Check.refused(x, Check.BAD, "sell(" + t + ")", y -> y.sell(t));
        Check.sentence(11, "STATE: it isn't there.");
        x.right(6, 0, 0, 1, 0, 0, 1, -1);
        x.right(6, 0, 0, 1, 0, 0, 4, -1);
        x.thing(0, 2, 1);
        x.strip(0);
        x.sell(3);
        x.fall(1);
        x.days(10);
        int[] are = {1, 2, 3, 4, 2, 5};
        for (int t = 0; t < are.length; t++) {
            int thing = t;
            Check.due("thingOf(" + t + ", 3)", x.thingOf(t, 3), are[t]);
            Check.refused(x, Check.STATE, "sell(" + t + ")", y -> y.sell(thing));
        }
        Check.due("houseOf(0, 2)", x.houseOf(0, 2), 5);
    }

    private static void show() {
        Check.sentence(12, "A THING that is HIDDEN is SHOWN by a tenant: 1.");
        FallenHouses x = new FallenHouses();
        x.person(0);
        x.house(0, 0, 0, 1);
        x.house(0, 0, 0, 9);
        for (int[] t : new int[][] {{1, 9}, {0, 5}, {0, 5}, {3, 5}, {0, 5}, {2, 1}, {1, 8}}) x.thing(0, t[0], t[1]);
        x.right(2, 0, 0, 1, 0, 0, 0, -1);
        x.right(6, 0, 0, 1, 0, 0, 2, -1);
        x.sell(4);
        x.strip(0);
        x.fall(1);
        x.days(1);
        Check.due("thingOf(0, 3)", x.thingOf(0, 3), 1);
        Check.due("show(0, 0)", x.show(0, 0), 1);
        Check.due("thingOf(0, 3), it stays hidden", x.thingOf(0, 3), 1);
        Check.due("thingOf(0, 4)", x.thingOf(0, 4), 1);
        Check.due("thingOf(6, 4), another one", x.thingOf(6, 4), 0);
        Check.due("show(0, 0), again", x.show(0, 0), 1);
        Check.sentence(12, "BAD: there is no such THING, PERSON;");
        for (int t : Check.outside(0, 6)) Check.refused(x, Check.BAD, "show(" + t + ", 0)", y -> y.show(t, 0));
        for (int p : Check.outside(0, 0)) Check.refused(x, Check.BAD, "show(0, " + p + ")", y -> y.show(0, p));
        Check.refused(x, Check.BAD, "show(1, 1), the first named", y -> y.show(1, 1));
        Check.sentence(12, "STATE: it isn't HIDDEN,");
        x.days(9);
        int[] are = {1, 0, 2, 3, 4, 5, 1};
        for (int t = 1; t < 6; t++) {
            int thing = t;
            Check.due("thingOf(" + t + ", 3)", x.thingOf(t, 3), are[t]);
            Check.refused(x, Check.STATE, "show(" + t + ", 0)", y -> y.show(thing, 0));
        }
        Check.due("show(6, 0)", x.show(6, 0), 1);
    }

    private static void showByWhom() {
        Check.sentence(12, "or the PERSON holds no lease on its HOUSE that isn't GONE TODAY, or isn't ALIVE.");
        FallenHouses x = new FallenHouses();
        // 0 holds all but a lease, 1 a lease elsewhere, 2 one that goes, 3 dies, 4 isn't born yet, 5 may
        for (int born : new int[] {0, 0, 0, 0, 3, 0}) x.person(born);
        x.house(0, 0, 0, 1);
        for (int i = 1; i < 3; i++) x.house(0, 0, 0, 9);
        x.thing(0, 1, 9);
        x.thing(0, 0, 9);
        for (int kind : new int[] {0, 1, 3, 4, 5}) x.right(kind, 0, 0, 1, 0, 0, 0, -1);
        x.right(6, 0, 0, 1, 0, 0, 1, -1);
        x.right(7, 0, 0, 1, 0, 0, 0, -1);
        x.right(2, 1, 1, 1, 0, 3599, 0, -1);
        for (int p = 2; p < 6; p++) x.right(2, 0, p, 1, 3000, 3001, 0, -1);
        x.right(7, 1, 0, 1, 0, 0, 8, -1);
        x.fall(2);
        x.days(1);
        x.die(3, 1);
        Check.refused(x, Check.STATE, "show(0, 0), no lease", y -> y.show(0, 0));
        Check.refused(x, Check.STATE, "show(0, 1), elsewhere", y -> y.show(0, 1));
        Check.due("show(0, 2), not gone yet", x.show(0, 2), 1);
        Check.due("show(0, 3), the day of death", x.show(0, 3), 1);
        x.prove(12);
        Check.refused(x, Check.STATE, "show(0, 2), gone today", y -> y.show(0, 2));
        Check.due("show(0, 5), another one's lease is not gone", x.show(0, 5), 1);
        x.days(1);
        Check.refused(x, Check.STATE, "show(0, 3), dead", y -> y.show(0, 3));
        Check.refused(x, Check.STATE, "show(0, 4), not born yet", y -> y.show(0, 4));
        x.days(1);
        Check.due("show(0, 4), born today", x.show(0, 4), 1);
        Check.read(x, 1, "lease stand if amount above 1;");
        x.right(2, 0, 1, 2, 0, 0, 0, -1);
        x.fall(0);
        Check.refused(x, Check.STATE, "show(0, 5), the lease fell", y -> y.show(0, 5));
        Check.due("show(0, 1), one that stands", x.show(0, 1), 1);
    }

    private static void strip() {
        Check.sentence(13, "A HOUSE is STRIPPED TODAY: how much its lead was worth.");
        FallenHouses x = new FallenHouses();
        x.person(0);
        for (int i = 0; i < 3; i++) x.house(0, 0, 11, 9);
        for (int[] t : new int[][] {{3, 1}, {3, 2}, {3, 4}, {0, 8}, {1, 16}, {2, 32}, {3, 64}}) x.thing(0, t[0], t[1]);
        x.thing(1, 3, 99);
        x.sell(1);
        x.right(6, 0, 0, 1, 0, 0, 2, -1);
        x.days(3);
        Check.due("strip(0), what is sold or pawned is not melted", x.strip(0), 65);
        int[] are = {3, 4, 2, 0, 0, 0, 3, 0};
        for (int i = 0; i < are.length; i++) Check.due("thingOf(" + i + ", 3)", x.thingOf(i, 3), are[i]);
        Check.due("houseOf(0, 5)", x.houseOf(0, 5), 3);
        Check.due("houseOf(1, 5)", x.houseOf(1, 5), Check.NONE);
        Check.due("houseOf(0, 2), the lead brings no coin", x.houseOf(0, 2), 13);
        Check.due("strip(2), without lead", x.strip(2), 0);
        Check.due("houseOf(2, 5)", x.houseOf(2, 5), 3);
        Check.sentence(13, "BAD: there is no such HOUSE;");
        for (int h : Check.outside(0, 2)) Check.refused(x, Check.BAD, "strip(" + h + ")", y -> y.strip(h));
    }

    private static void stripOnce() {
        Check.sentence(13, "STATE: it was already.");
        FallenHouses x = new FallenHouses();
        x.house(0, 0, 0, 9);
        x.house(0, 0, 0, 9);
        x.thing(1, 3, 5);
        Check.due("strip(0) on day 0, nothing to melt", x.strip(0), 0);
        Check.refused(x, Check.STATE, "strip(0) on the same day", y -> y.strip(0));
        x.days(10);
        x.thing(0, 3, 9);
        Check.refused(x, Check.STATE, "strip(0) later, with new lead", y -> y.strip(0));
        Check.due("thingOf(1, 3)", x.thingOf(1, 3), 0);
        Check.sentence(13, "A HOUSE (FALLEN or not) may be STRIPPED, once: its lead that is there is MELTED.");
        x.fall(0);
        Check.refused(x, Check.STATE, "strip(0), stripped and then fallen", y -> y.strip(0));
        x.fall(1);
        Check.due("strip(1), fallen", x.strip(1), 5);
        Check.due("thingOf(0, 3)", x.thingOf(0, 3), 3);
        Check.refused(x, Check.STATE, "strip(1), fallen and then stripped", y -> y.strip(1));
    }
}
