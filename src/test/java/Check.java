import java.io.IOException;
import java.nio.file.Files;
import java.nio.file.Path;
import java.util.Arrays;
import java.util.function.ToIntFunction;

/** What the tests share: a count of wrong answers, and short ways to make what a test needs. */
final class Check {
    static final int BAD = -1, FULL = -2, NONE = -3, STATE = -4;
    static final String DOCUMENT = "../shared/DOC.md";
    private static int right, wrong, sentences, answersAhead;
    /** The sentence that is tested, and its promise; none at first. */
    private static String sentence = "";
    private static String document = "";

    private Check() {
    }

    static void due(String call, long got, long want) {
        if (got == want) {
            right++;
            return;
        }
        wrong++;
        System.out.println(sentence + call + " answered " + got + ", due is " + want);
    }

    /** What is asked from here on tests a sentence of the document, that belongs to a promise. */
    static void sentence(int promise, String words) {
        endSentence();
        sentences++;
        sentence = "promise " + promise + ", \"" + words + "\": ";
        due("the document says so", saysTheDocument(words) ? 1 : 0, 1);
        answersAhead = right + wrong;
    }

    private static void endSentence() {
        if (sentences > 0 && right + wrong == answersAhead) due("how many answers were looked at", 0, 1);
    }

    private static boolean saysTheDocument(String words) {
        try {
            if (document.isEmpty()) document = plain(Files.readString(Path.of(DOCUMENT)));
        } catch (IOException e) {
            System.out.println(e);
        }
        return document.contains(plain(words));
    }

    /** A text with one blank wherever there are some. */
    static String plain(String text) {
        return text.replaceAll("\\s+", " ");
    }

    /** A refused call answers as is due, and changes nothing of all that can be asked. */
    static void refused(FallenHouses x, int want, String call, ToIntFunction<FallenHouses> made) {
        int[] kept = Worlds.kept(x);
        int[] host = Worlds.host(x);
        due(call, made.applyAsInt(x), want);
        due(call + " changes nothing that is kept, which", Arrays.equals(kept, Worlds.kept(x)) ? 1 : 0, 1);
        due(call + " changes nothing else, which", Arrays.equals(host, Worlds.host(x)) ? 1 : 0, 1);
    }

    /** Numbers that are not within bounds: those beside them, and the farthest. */
    static int[] outside(int least, int most) {
        return new int[] {least - 1, most + 1, Integer.MIN_VALUE, Integer.MAX_VALUE};
    }

    /** What is no DAY. */
    static int[] noDays() {
        return outside(0, 3599);
    }

    static void finish() {
        endSentence();
        String tested = sentences == 0 ? "" : " of " + sentences + " sentences";
        System.out.println(right + " answers" + tested + " as due, " + wrong + " not");
        if (wrong != 0) System.exit(1);
    }

    /** The bytes of a text come to THE TAPE. */
    static int feed(FallenHouses x, String text) {
        int many = 0;
        for (int i = 0; i < text.length(); i += 8) {
            int n = Math.min(8, text.length() - i);
            long eight = 0;
            for (int k = 0; k < n; k++) eight |= (long) (text.charAt(i + k) & 255) << 8 * k;
            many = x.feed(eight, n);
        }
        return many;
    }

    static int read(FallenHouses x, int act, String text) {
        feed(x, text);
        return x.read(act);
    }

    /** TODAY becomes a later DAY. */
    static void until(FallenHouses x, int day) {
        for (int left = day - x.many(0); left > 0; left -= 400) x.days(Math.min(left, 400));
    }
}
