/** Promises 33 to 39, sentence by sentence: each bound with what is on it and what is behind it. */
final class CommissionersEdgesTest {
    public static void main(String[] args) {
        value();
        valueOfWhat();
        roll();
        valueRefused();
        due();
        ride();
        inTime();
        fewestDays();
        leastFirst();
        rideRefused();
        rows();
        rowRefused();
        alterRow();
        dropRow();
        judge();
        judgeRefused();
        Check.finish();
    }

    private static void value() {
        Check.sentence(33, "A COMMISSIONER comes to a HOUSE TODAY: THE ROLL.");
        FallenHouses x = new FallenHouses();
        x.house(0, 0, 0, 9);
        x.house(0, 0, 0, 9);
        Check.due("value(0, 40), nothing is there", x.value(0, 40), 0);
        x.thing(1, 0, 1);
        x.thing(0, 0, 1);
        Check.due("value(0, 40)", x.value(0, 40), 2);
        Check.due("value(1, 40)", x.value(1, 40), 1);
        Check.sentence(33, "A COMMISSIONER comes to a HOUSE, that hasn't FALLEN, with HOURS (0 to 40): THINGS of it that are there, by numbers, "
            + "are put down in THE ROLL as long as there are HOURS: bell 3, plate 2, book 1, lead 4; the first for which there are too few "
            + "ends it.");
        int[] takes = {3, 2, 1, 4};
        for (int kind = 0; kind < 4; kind++) {
            FallenHouses y = new FallenHouses();
            y.house(0, 0, 0, 9);
            y.thing(0, kind, 1);
            y.thing(0, kind, 1);
            for (int hours = 0; hours <= 9; hours++) {
                int many = Math.min(2, hours / takes[kind]);
                Check.due("kind " + kind + " in " + hours, y.value(0, hours), (1 << many) - 1);
            }
        }
        FallenHouses y = new FallenHouses();
        y.house(0, 0, 0, 9);
        for (int kind : new int[] {2, 3, 2, 1, 0}) y.thing(0, kind, 1);
        // 1, 5, 6, 8, 11
        int[] rolls = {0, 1, 1, 1, 1, 3, 7, 7, 15, 15, 15, 31, 31};
        for (int hours = 0; hours < rolls.length; hours++) Check.due("value(0, " + hours + ")", y.value(0, hours), rolls[hours]);
        FallenHouses z = new FallenHouses();
        z.house(0, 0, 0, 9);
        for (int i = 0; i < 24; i++) z.thing(0, i < 16 ? 1 : 2, 1);
        Check.due("all 24 in 40", z.value(0, 40), 0xffffff);
        Check.due("all but the last in 39", z.value(0, 39), 0x7fffff);
    }

    private static void valueOfWhat() {
        Check.sentence(33, "A THING that is HIDDEN is put down in THE ROLL as if it were there, if a tenant SHOWED it.");
        FallenHouses x = new FallenHouses();
        x.person(0);
        x.house(0, 0, 0, 1);
        x.house(0, 0, 0, 9);
        for (int[] t : new int[][] {{1, 9}, {0, 5}, {0, 5}, {3, 5}, {1, 1}, {2, 8}, {0, 5}}) x.thing(0, t[0], t[1]);
        x.thing(1, 2, 5);
        x.right(2, 0, 0, 1, 0, 0, 0, -1);
        x.right(6, 0, 0, 1, 0, 0, 1, -1);
        x.sell(2);
        x.strip(0);
        // neither what is pawned, sold or melted, nor the other house's
        Check.due("value(0, 40)", x.value(0, 40), 1 + 16 + 32 + 64);
        x.fall(1);
        x.days(1);
        Check.due("value(0, 40), the plate is hidden", x.value(0, 40), 16 + 32 + 64);
        x.show(0, 0);
        Check.due("value(0, 40), it was showed", x.value(0, 40), 1 + 16 + 32 + 64);
        Check.due("value(0, 1), it takes as long as if it were there", x.value(0, 1), 0);
        Check.due("value(0, 2)", x.value(0, 2), 1);
        x.days(1);
        Check.due("value(0, 40), the book is hidden", x.value(0, 40), 1 + 16 + 64);
        x.show(5, 0);
        Check.due("value(0, 40), it was showed", x.value(0, 40), 1 + 16 + 32 + 64);
        x.days(8);
        Check.due("value(0, 40), a book that was showed rotted, the other plate is hidden", x.value(0, 40), 1 + 64);
    }

    private static void roll() {
        Check.sentence(33, "THE ROLL of a HOUSE: what was put down latest (bits), and on which DAY.");
        FallenHouses x = new FallenHouses();
        x.house(0, 0, 0, 9);
        x.house(0, 0, 0, 9);
        x.thing(0, 2, 1);
        x.thing(0, 2, 1);
        x.days(6);
        x.value(0, 40);
        Check.due("houseOf(0, 8)", x.houseOf(0, 8), 3);
        Check.due("houseOf(0, 9)", x.houseOf(0, 9), 6);
        Check.due("houseOf(1, 8)", x.houseOf(1, 8), 0);
        Check.due("houseOf(1, 9)", x.houseOf(1, 9), Check.NONE);
        x.days(1);
        x.sell(0);
        Check.due("houseOf(0, 8), as it was put down", x.houseOf(0, 8), 3);
        x.value(0, 1);
        Check.due("houseOf(0, 8)", x.houseOf(0, 8), 2);
        Check.due("houseOf(0, 9)", x.houseOf(0, 9), 7);
        x.days(1);
        x.value(0, 0);
        Check.due("houseOf(0, 8), without hours", x.houseOf(0, 8), 0);
        Check.due("houseOf(0, 9)", x.houseOf(0, 9), 8);
        x.value(1, 5);
        Check.due("houseOf(1, 9), nothing to put down", x.houseOf(1, 9), 8);
        x.value(0, 1);
        x.fall(0);
        Check.due("houseOf(0, 8), fallen", x.houseOf(0, 8), 2);
    }

    private static void valueRefused() {
        Check.sentence(33, "BAD: there is no such HOUSE, or hours aren't as told; STATE: it has FALLEN.");
        FallenHouses x = new FallenHouses();
        x.house(0, 0, 0, 9);
        x.house(0, 0, 0, 9);
        x.thing(0, 2, 1);
        x.value(0, 1);
        for (int h : Check.outside(0, 1)) Check.refused(x, Check.BAD, "value(" + h + ", 5)", y -> y.value(h, 5));
        for (int hours : Check.outside(0, 40)) Check.refused(x, Check.BAD, "value(0, " + hours + ")", y -> y.value(0, hours));
        Check.due("value(0, 0)", x.value(0, 0), 0);
        Check.due("value(0, 40)", x.value(0, 40), 1);
        x.fall(0);
        Check.refused(x, Check.STATE, "value(0, 0), fallen", y -> y.value(0, 0));
        Check.refused(x, Check.BAD, "value(0, 41), fallen, too", y -> y.value(0, 41));
        Check.due("value(1, 40)", x.value(1, 40), 0);
    }

    private static void due() {
        Check.sentence(34, "DUE of a HOUSE: what it was.");
        FallenHouses x = new FallenHouses();
        x.house(0, 0, 0, 9);
        x.house(0, 0, 0, 9);
        Check.due("due(0, 0)", x.due(0, 0), 3599);
        Check.due("due(0, 3599)", x.due(0, 3599), 0);
        Check.due("due(0, 5)", x.due(0, 5), 3599);
        Check.due("houseOf(0, 6)", x.houseOf(0, 6), 5);
        Check.due("due(1, 9), of another house", x.due(1, 9), 3599);
        x.fall(0);
        Check.due("due(0, 7), fallen", x.due(0, 7), 5);
        Check.sentence(34, "BAD: there is no such HOUSE, DAY.");
        for (int h : Check.outside(0, 1)) Check.refused(x, Check.BAD, "due(" + h + ", 5)", y -> y.due(h, 5));
        for (int day : Check.noDays()) Check.refused(x, Check.BAD, "due(0, " + day + ")", y -> y.due(0, day));
    }

    private static void ride() {
        Check.sentence(35, "THE RIDE from a PLACE over a set of HOUSES (bits): what = 0 how many are in time, 1 DAYS in all, 2 THE HOUSES as "
            + "decimal digits (the first one the highest), and 10000000 more.");
        FallenHouses x = new FallenHouses();
        for (int i = 0; i < 8; i++) x.house(i, 0, 0, 9);
        for (int i = 0; i < 8; i++) x.road(i, i + 1, 1);
        Check.due("houses of one", x.ride(3, 8, 2), 10000003);
        Check.due("houses of house 0", x.ride(3, 1, 2), 10000000);
        Check.due("houses of seven", x.ride(0, 127, 2), 10123456);
        Check.due("the other way", x.ride(8, 254, 2), 17654321);
        Check.due("days of seven", x.ride(8, 254, 1), 14);
        Check.due("in time of seven", x.ride(8, 254, 0), 7);
        Check.sentence(35, "A RIDE: one COMMISSIONER begins at a PLACE TODAY, and goes to HOUSES of a set (7 at most), one behind the other, by "
            + "ROADS; each takes one DAY more.");
        x.days(10);
        Check.due("days from day 10 on, at the place itself", x.ride(0, 1, 1), 1);
        Check.due("its row", x.row(0, 1), 10);
        Check.due("days by a road", x.ride(9, 1, 1), 6);
        Check.due("its row", x.row(0, 1), 15);
        Check.due("days of two", x.ride(0, 3, 1), 3);
        Check.due("row 1", x.row(1, 1), 12);
        x.fall(1);
        Check.due("fallen ones, too", x.ride(0, 3, 1), 3);
        FallenHouses last = new FallenHouses();
        last.house(1, 0, 0, 9);
        Check.until(last, 3599);
        Check.due("days behind the last one", last.ride(0, 1, 1), 6);
        Check.due("its row", last.row(0, 1), 3604);
        Check.due("not in time", last.ride(0, 1, 0), 0);
    }

    private static void inTime() {
        Check.sentence(35, "A HOUSE is in time, if they come there not behind its DUE (a DAY told; 3599 at first).");
        FallenHouses x = new FallenHouses();
        x.house(1, 0, 0, 9);
        x.days(20);
        int[][] dues = {{24, 0}, {25, 1}, {26, 1}, {0, 0}, {3599, 1}};
        for (int[] d : dues) {
            x.due(0, d[0]);
            Check.due("they come on 25, due " + d[0], x.ride(0, 1, 0), d[1]);
        }
        Check.sentence(35, "THE RIDE goes to all of the set, with the most in time;");
        FallenHouses y = new FallenHouses();
        y.house(1, 0, 0, 9);
        y.house(2, 0, 0, 9);
        y.road(0, 2, 20);
        y.road(1, 2, 20);
        y.due(1, 20);
        y.due(0, 41);
        // 0 first is over on day 27; 1 first on day 42, with both in time
        Check.due("the longer way is in time", y.ride(0, 3, 2), 10000010);
        Check.due("in time", y.ride(0, 3, 0), 2);
        Check.due("days", y.ride(0, 3, 1), 42);
        y.due(1, 3599);
        y.due(0, 7);
        // now the first way that is tried is the best one, and the other comes late at its end
        Check.due("the first way", y.ride(0, 3, 2), 10000001);
        Check.due("in time", y.ride(0, 3, 0), 2);
        y.due(1, 20);
        y.due(0, 40);
        Check.due("one only in time either way", y.ride(0, 3, 0), 1);
        Check.due("the shorter way", y.ride(0, 3, 2), 10000001);
    }

    private static void fewestDays() {
        Check.sentence(35, "of several the fewest DAYS in all (from TODAY till the DAY at the last HOUSE is over);");
        FallenHouses x = new FallenHouses();
        x.house(1, 0, 0, 9);
        x.house(2, 0, 0, 9);
        x.house(3, 0, 0, 9);
        x.road(0, 3, 1);
        x.road(3, 2, 1);
        x.road(2, 1, 1);
        Check.due("houses", x.ride(0, 7, 2), 10000210);
        Check.due("days", x.ride(0, 7, 1), 6);
        for (int h = 0; h < 3; h++) x.due(h, 0);
        Check.due("houses, none in time", x.ride(0, 7, 2), 10000210);
        Check.due("in time", x.ride(0, 7, 0), 0);
    }

    private static void leastFirst() {
        Check.sentence(35, "of several the least HOUSE first at which they are unlike.");
        FallenHouses x = new FallenHouses();
        for (int i = 0; i < 8; i++) x.house(i % 2, 0, 0, 9);
        Check.due("all of one place", x.ride(0, 1 + 4 + 16 + 64, 2), 10000246);
        Check.due("of two places, from the first", x.ride(0, 127, 2), 10246135);
        Check.due("of two places, from the second", x.ride(1, 127, 2), 11350246);
        Check.due("of two places, from elsewhere", x.ride(9, 127, 2), 10246135);
        x.due(6, 0);
        Check.due("one must be first", x.ride(0, 127, 2), 16024135);
    }

    private static void rideRefused() {
        Check.sentence(35, "BAD: there is no such PLACE, another what, or the set has a bit of none, or more than 7; NONE: the set is empty.");
        FallenHouses x = new FallenHouses();
        Check.refused(x, Check.NONE, "ride(0, 0, 0), without houses", y -> y.ride(0, 0, 0));
        Check.refused(x, Check.BAD, "ride(0, 1, 0), without houses", y -> y.ride(0, 1, 0));
        for (int i = 0; i < 7; i++) x.house(i, 0, 0, 9);
        Check.due("ride(9, 127, 2)", x.ride(9, 127, 0), 7);
        x.alterRow(0, 0, 99);
        for (int place : Check.outside(0, 9)) {
            Check.refused(x, Check.BAD, "ride(" + place + ", 1, 0)", y -> y.ride(place, 1, 0));
            Check.refused(x, Check.BAD, "ride(" + place + ", 0, 0)", y -> y.ride(place, 0, 0));
        }
        for (int what : Check.outside(0, 2)) {
            Check.refused(x, Check.BAD, "ride(0, 1, " + what + ")", y -> y.ride(0, 1, what));
            Check.refused(x, Check.BAD, "ride(0, 0, " + what + ")", y -> y.ride(0, 0, what));
        }
        for (int set : new int[] {128, 129, 255, 256, 1 << 30, -1, Integer.MIN_VALUE, Integer.MIN_VALUE + 1, Integer.MAX_VALUE}) {
            Check.refused(x, Check.BAD, "ride(0, " + set + ", 0), seven houses", y -> y.ride(0, set, 0));
        }
        Check.refused(x, Check.NONE, "ride(9, 0, 2)", y -> y.ride(9, 0, 2));
        x.house(7, 0, 0, 9);
        Check.refused(x, Check.BAD, "ride(0, 255, 0), eight houses", y -> y.ride(0, 255, 0));
        Check.refused(x, Check.BAD, "ride(0, 256, 0), eight houses", y -> y.ride(0, 256, 0));
        Check.refused(x, Check.BAD, "ride(0, 257, 0), eight houses", y -> y.ride(0, 257, 0));
        Check.due("ride(0, 254, 0), eight houses", x.ride(0, 254, 0), 7);
        Check.due("ride(0, 128, 2), eight houses", x.ride(0, 128, 2), 10000007);
    }

    private static void rows() {
        Check.sentence(35, "ROWS of it are told.");
        FallenHouses x = new FallenHouses();
        for (int i = 0; i < 7; i++) x.house(i, 0, 0, 9);
        x.days(3);
        for (int what = 0; what < 3; what++) {
            x.ride(6, 1 << 6 | 1, what);
            Check.due("many(10)", x.many(10), 2);
            int[][] rows = {{6, 3}, {0, 9}};
            for (int i = 0; i < 2; i++) {
                for (int w = 0; w < 2; w++) Check.due("row(" + i + ", " + w + ")", x.row(i, w), rows[i][w]);
            }
            x.ride(0, 127, what);
            Check.due("many(10)", x.many(10), 7);
        }
        Check.sentence(36, "ROWS of it: for each HOUSE in turn (HOUSE, DAY on which they come).");
        // 0 on day 3, then six days each
        for (int i = 0; i < 7; i++) {
            Check.due("row(" + i + ", 0)", x.row(i, 0), i);
            Check.due("row(" + i + ", 1)", x.row(i, 1), 3 + 6 * i);
        }
    }

    private static void rowRefused() {
        Check.sentence(36, "Of ROW i: what = 0 HOUSE, 1 DAY. -9: there is none such, another what.");
        FallenHouses x = new FallenHouses();
        for (int i = 0; i < 3; i++) x.house(1, 0, 0, 9);
        Check.refused(x, -9, "row(0, 0), no ride yet", y -> y.row(0, 0));
        x.ride(0, 6, 0);
        Check.due("row(1, 0)", x.row(1, 0), 2);
        Check.due("row(1, 1)", x.row(1, 1), 6);
        for (int i : Check.outside(0, 1)) {
            for (int what = 0; what < 2; what++) {
                int asked = what;
                Check.refused(x, -9, "row(" + i + ", " + what + ")", y -> y.row(i, asked));
            }
        }
        for (int what : Check.outside(0, 1)) Check.refused(x, -9, "row(0, " + what + ")", y -> y.row(0, what));
    }

    private static void alterRow() {
        Check.sentence(37, "It becomes v: what it was. -9 likewise.");
        FallenHouses x = new FallenHouses();
        for (int i = 0; i < 2; i++) x.house(1, 0, 0, 9);
        Check.refused(x, -9, "alterRow(0, 0, 1), no ride yet", y -> y.alterRow(0, 0, 1));
        x.ride(0, 3, 0);
        for (int i : Check.outside(0, 1)) Check.refused(x, -9, "alterRow(" + i + ", 0, 8)", y -> y.alterRow(i, 0, 8));
        for (int what : Check.outside(0, 1)) Check.refused(x, -9, "alterRow(1, " + what + ", 8)", y -> y.alterRow(1, what, 8));
        Check.due("alterRow(1, 1, MAX)", x.alterRow(1, 1, Integer.MAX_VALUE), 6);
        Check.due("alterRow(1, 1, MIN)", x.alterRow(1, 1, Integer.MIN_VALUE), Integer.MAX_VALUE);
        Check.due("alterRow(1, 1, -9)", x.alterRow(1, 1, -9), Integer.MIN_VALUE);
        Check.due("row(1, 1)", x.row(1, 1), -9);
        Check.due("alterRow(1, 0, 0)", x.alterRow(1, 0, 0), 1);
        Check.due("row(1, 0)", x.row(1, 0), 0);
        Check.due("row(0, 0), another row", x.row(0, 0), 0);
        Check.due("row(0, 1)", x.row(0, 1), 5);
    }

    private static void dropRow() {
        Check.sentence(38, "The latest ROW goes: how many there are. NONE: there are none.");
        FallenHouses x = new FallenHouses();
        for (int i = 0; i < 3; i++) x.house(1, 0, 0, 9);
        Check.refused(x, Check.NONE, "dropRow(), no ride yet", y -> y.dropRow());
        x.ride(0, 7, 0);
        Check.due("dropRow()", x.dropRow(), 2);
        Check.due("row(2, 0)", x.row(2, 0), -9);
        Check.due("row(1, 0)", x.row(1, 0), 1);
        Check.due("dropRow()", x.dropRow(), 1);
        Check.due("dropRow()", x.dropRow(), 0);
        Check.due("row(0, 0)", x.row(0, 0), -9);
        Check.refused(x, Check.NONE, "dropRow(), none is left", y -> y.dropRow());
        x.ride(0, 7, 0);
        Check.due("many(10)", x.many(10), 3);
    }

    private static void judge() {
        Check.sentence(39, "THE READER: the first row that isn't so; how many there are, if they are right, but too few; -1: all are right.");
        FallenHouses x = new FallenHouses();
        for (int i = 0; i < 4; i++) x.house(i, 0, 0, 9);
        x.ride(0, 3, 0);
        Check.due("judge(), all are right", x.judge(), 0);
        x.dropRow();
        Check.due("judge(), one that is right", x.judge(), 2);
        x.alterRow(0, 0, 1);
        Check.due("judge(), one that isn't", x.judge(), 1);
        Check.sentence(39, "THE READER on ROWS as those of the latest ride() that was not refused, and 1 more (0: all are right).");
        x.ride(0, 15, 0);
        Check.due("judge()", x.judge(), 0);
        for (int i = 0; i < 4; i++) {
            for (int what = 0; what < 2; what++) {
                int was = x.row(i, what);
                x.alterRow(i, what, was + 1);
                Check.due("judge(), row " + i + " is wrong", x.judge(), i + 1);
                x.alterRow(3, 0, 77);
                Check.due("judge(), row 3 is, too", x.judge(), i + 1);
                x.alterRow(3, 0, 3);
                x.alterRow(i, what, was);
                Check.due("judge()", x.judge(), 0);
            }
        }
        x.ride(0, 0, 0);
        x.ride(0, 16, 0);
        x.ride(10, 15, 0);
        x.ride(0, 1, 3);
        Check.due("judge(), behind rides that were refused", x.judge(), 0);
        for (int left = 3; left >= 0; left--) {
            x.dropRow();
            Check.due("judge(), " + left + " rows that are right", x.judge(), left + 1);
        }
        x.ride(0, 15, 0);
        x.dropRow();
        x.alterRow(2, 1, 0);
        Check.due("judge(), wrong and too few", x.judge(), 3);
        x.ride(3, 1, 0);
        Check.due("judge(), the latest ride", x.judge(), 0);
        x.days(9);
        x.road(3, 0, 9);
        Check.due("judge(), as they were told", x.judge(), 0);
    }

    private static void judgeRefused() {
        Check.sentence(39, "NONE: there was none yet.");
        FallenHouses x = new FallenHouses();
        Check.refused(x, Check.NONE, "judge()", y -> y.judge());
        x.house(0, 0, 0, 9);
        x.ride(0, 0, 0);
        x.ride(0, 2, 0);
        Check.refused(x, Check.NONE, "judge(), refused rides alone", y -> y.judge());
        x.ride(0, 1, 0);
        x.dropRow();
        Check.due("judge(), no row is left", x.judge(), 1);
    }
}
