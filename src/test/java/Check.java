/** What the tests share: a count of wrong answers, and short ways to make what a test needs. */
final class Check {
    static final int BAD = -1, FULL = -2, NONE = -3, STATE = -4;
    private static int right, wrong;

    private Check() {
    }

    static void due(String call, long got, long want) {
        if (got == want) {
            right++;
            return;
        }
        wrong++;
        System.out.println(call + " answered " + got + ", due is " + want);
    }

    static void finish() {
        System.out.println(right + " answers as due, " + wrong + " not");
        if (wrong != 0) System.exit(1);
    }

    /** The bytes of a text come to THE TAPE. */
    static int feed(FallenHouses x, String text) {
        int many = 0;
        for (int i = 0; i < text.length(); i += 8) {
            int n = Math.min(8, text.length() - i);
            long eight = 0;
            for (int k = 0; k < n; k++) eight |= (long) (text.charAt(i + k) & 255) << 8 * k;
            many = x.feed(eight, n);
        }
        return many;
    }

    static int read(FallenHouses x, int act, String text) {
        feed(x, text);
        return x.read(act);
    }

    /** TODAY becomes a later DAY. */
    static void until(FallenHouses x, int day) {
        for (int left = day - x.many(0); left > 0; left -= 400) x.days(Math.min(left, 400));
    }
}
