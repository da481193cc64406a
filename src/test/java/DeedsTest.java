/** Promises 44 to 47: deed, title, quarrels, owed. */
final class DeedsTest {
    public static void main(String[] args) {
        deed();
        follow();
        sameDay();
        knownLater();
        refused();
        Check.finish();
    }

    private static FallenHouses persons(int many) {
        FallenHouses x = new FallenHouses();
        for (int i = 0; i < many; i++) x.person(0);
        return x;
    }

    private static void deed() {
        FallenHouses x = persons(2);
        Check.due("field 6", x.deed(6, 0, 1, 0, 0), Check.BAD);
        Check.due("field -1", x.deed(-1, 0, 1, 0, 0), Check.BAD);
        Check.due("from 2", x.deed(0, 2, 1, 0, 0), Check.BAD);
        Check.due("from -1", x.deed(0, -1, 1, 0, 0), Check.BAD);
        Check.due("to 2", x.deed(0, 0, 2, 0, 0), Check.BAD);
        Check.due("to -1", x.deed(0, 0, -1, 0, 0), Check.BAD);
        Check.due("to themselves", x.deed(0, 1, 1, 0, 0), Check.BAD);
        Check.due("day -1", x.deed(0, 0, 1, -1, 0), Check.BAD);
        Check.due("day 3600", x.deed(0, 0, 1, 3600, 0), Check.BAD);
        Check.due("amount -1", x.deed(0, 0, 1, 0, -1), Check.BAD);
        Check.due("amount 1000", x.deed(0, 0, 1, 0, 1000), Check.BAD);
        Check.due("first", x.deed(5, 0, 1, 3599, 999), 0);
        for (int i = 1; i < 24; i++) Check.due("deed", x.deed(0, i % 2, 1 - i % 2, 0, 0), i);
        Check.due("full", x.deed(0, 0, 1, 0, 0), Check.FULL);
        Check.due("full and bad", x.deed(0, 0, 0, 0, 0), Check.BAD);
        Check.due("many(9)", x.many(9), 24);
    }

    private static void follow() {
        FallenHouses x = persons(4);
        x.deed(1, 1, 2, 20, 5);
        x.deed(1, 0, 1, 10, 7);
        x.deed(1, 1, 3, 30, 9);
        x.deed(1, 2, 1, 40, 11);
        x.deed(1, 1, 3, 50, 13);
        x.deed(2, 3, 0, 5, 17);
        int[][] titles = {{9, Check.NONE}, {10, 1}, {19, 1}, {20, 2}, {30, 2}, {39, 2}, {40, 1}, {49, 1}, {50, 3}, {3599, 3}};
        for (int[] t : titles) Check.due("title(1, " + t[0] + ", 0)", x.title(1, t[0], 0), t[1]);
        Check.due("quarrels(1, 0)", x.quarrels(1, 0), 1);
        Check.due("quarrels(2, 0)", x.quarrels(2, 0), 0);
        Check.due("quarrels(3, 0)", x.quarrels(3, 0), 0);
        Check.due("title(3, 3599, 0)", x.title(3, 3599, 0), Check.NONE);
        x.deed(5, 3, 2, 5, 19);
        x.deed(5, 3, 2, 6, 23);
        Check.due("title(5, 5, 0)", x.title(5, 5, 0), 2);
        Check.due("quarrels(5, 0)", x.quarrels(5, 0), 1);
        Check.due("owed to 3 for field 5", x.owed(3, 5, 6, 0), 19);
        Check.due("owed to 1 on 19", x.owed(1, 1, 19, 0), 0);
        Check.due("owed to 1 on 20", x.owed(1, 1, 20, 0), 5);
        Check.due("owed to 1 on 49, not for the quarrel", x.owed(1, 1, 49, 0), 5);
        Check.due("owed to 1 on 50", x.owed(1, 1, 50, 0), 18);
        Check.due("owed to 0 ahead of the deed", x.owed(0, 1, 9, 0), 0);
        Check.due("owed to 0", x.owed(0, 1, 10, 0), 7);
        Check.due("owed to 3 for field 1", x.owed(3, 1, 3599, 0), 0);
        Check.due("owed to 3 for field 2", x.owed(3, 2, 5, 0), 17);
    }

    private static void sameDay() {
        FallenHouses x = persons(3);
        x.deed(0, 0, 1, 10, 1);
        x.deed(0, 1, 2, 10, 2);
        x.deed(0, 1, 0, 10, 4);
        Check.due("by numbers on one day", x.title(0, 10, 0), 2);
        Check.due("quarrels", x.quarrels(0, 0), 1);
        x.deed(0, 2, 0, 9, 8);
        // now the first is 3: 2 to 0; then 0: 0 to 1; 1: 1 to 2; 2 is a quarrel
        Check.due("title on 9", x.title(0, 9, 0), 0);
        Check.due("title on 10", x.title(0, 10, 0), 2);
        Check.due("owed to 2", x.owed(2, 0, 10, 0), 8);
    }

    private static void knownLater() {
        FallenHouses x = persons(3);
        x.days(5);
        x.deed(0, 0, 1, 100, 1);
        x.days(5);
        x.deed(0, 2, 0, 50, 2);
        x.deed(0, 2, 1, 60, 4);
        Check.due("known on 4", x.title(0, 3599, 4), Check.NONE);
        Check.due("known on 5", x.title(0, 60, 5), Check.NONE);
        Check.due("known on 9", x.title(0, 100, 9), 1);
        Check.due("known on 10", x.title(0, 60, 10), 0);
        Check.due("quarrels known on 9", x.quarrels(0, 9), 0);
        Check.due("quarrels known on 10", x.quarrels(0, 10), 1);
        Check.due("owed known on 9", x.owed(2, 0, 3599, 9), 0);
        Check.due("owed known on 10", x.owed(2, 0, 3599, 10), 2);
    }

    private static void refused() {
        FallenHouses x = persons(1);
        x.days(7);
        Check.due("title(6, 0, 0)", x.title(6, 0, 0), Check.BAD);
        Check.due("title(-1, 0, 0)", x.title(-1, 0, 0), Check.BAD);
        Check.due("title(0, 3600, 0)", x.title(0, 3600, 0), Check.BAD);
        Check.due("title(0, -1, 0)", x.title(0, -1, 0), Check.BAD);
        Check.due("title(0, 0, 8)", x.title(0, 0, 8), Check.BAD);
        Check.due("title(0, 0, -1)", x.title(0, 0, -1), Check.BAD);
        Check.due("title(0, 0, 7)", x.title(0, 0, 7), Check.NONE);
        Check.due("quarrels(6, 0)", x.quarrels(6, 0), Check.BAD);
        Check.due("quarrels(-1, 0)", x.quarrels(-1, 0), Check.BAD);
        Check.due("quarrels(0, 8)", x.quarrels(0, 8), Check.BAD);
        Check.due("quarrels(0, -1)", x.quarrels(0, -1), Check.BAD);
        Check.due("owed(1, 0, 0, 0)", x.owed(1, 0, 0, 0), Check.BAD);
        Check.due("owed(-1, 0, 0, 0)", x.owed(-1, 0, 0, 0), Check.BAD);
        Check.due("owed(0, 6, 0, 0)", x.owed(0, 6, 0, 0), Check.BAD);
        Check.due("owed(0, -1, 0, 0)", x.owed(0, -1, 0, 0), Check.BAD);
        Check.due("owed(0, 0, 3600, 0)", x.owed(0, 0, 3600, 0), Check.BAD);
        Check.due("owed(0, 0, -1, 0)", x.owed(0, 0, -1, 0), Check.BAD);
        Check.due("owed(0, 0, 0, 8)", x.owed(0, 0, 0, 8), Check.BAD);
        Check.due("owed(0, 0, 0, -1)", x.owed(0, 0, 0, -1), Check.BAD);
        Check.due("owed(0, 0, 0, 7)", x.owed(0, 0, 0, 7), 0);
    }
}
