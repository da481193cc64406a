import java.io.IOException;
import java.nio.file.Files;
import java.nio.file.Path;
import java.util.ArrayList;
import java.util.List;
import java.util.regex.Matcher;
import java.util.regex.Pattern;
import java.util.stream.Stream;

/** Every word of the promises, and of the terms that they use, is in a sentence that a test names as its own. */
final class SentencesTest {
    private static final int PROMISES = 59;
    private static final String TEXT = "\"((?:[^\"\\\\]|\\\\.)*)\"";
    private static final Pattern SENTENCE = Pattern.compile("Check\\.sentence\\((\\d+),\\s*(" + TEXT + "(?:\\s*\\+\\s*" + TEXT + ")*)\\)");

    private record Sentence(int promise, String words) {
    }

    public static void main(String[] args) throws IOException {
        String document = Check.plain(Files.readString(Path.of(Check.DOCUMENT)));
        List<Sentence> tested = tested();
        // what the terms tell may be tested under any promise
        List<String> all = new ArrayList<>();
        for (Sentence sentence : tested) all.add(sentence.words());
        String terms = between(document, "## Terms", "Ahead of the calls `days`");
        covered("the terms", terms.replaceAll("```(text)?|======== \\d", ""), all);
        for (int promise = 1; promise <= PROMISES; promise++) {
            String end = promise < PROMISES ? "## Promise " + (promise + 1) + ":" : "## Not promised";
            String text = between(document, "## Promise " + promise + ":", end).replaceAll("^.*?`[^`]*`: ", "");
            List<String> own = new ArrayList<>();
            for (Sentence sentence : tested) {
                if (sentence.promise() == promise) own.add(sentence.words());
            }
            Check.due("promise " + promise + " has tests", own.isEmpty() ? 0 : 1, 1);
            covered("promise " + promise, text, own);
        }
        Check.finish();
    }

    private static List<Sentence> tested() throws IOException {
        List<Sentence> tested = new ArrayList<>();
        List<Path> files = new ArrayList<>();
        try (Stream<Path> list = Files.list(Path.of("src/test/java"))) {
            list.filter(file -> file.toString().endsWith("Test.java")).forEach(files::add);
        }
        for (Path file : files) {
            Matcher sentence = SENTENCE.matcher(Files.readString(file));
            while (sentence.find()) {
                StringBuilder words = new StringBuilder();
                Matcher text = Pattern.compile(TEXT).matcher(sentence.group(2));
                while (text.find()) words.append(text.group(1).replace("\\\"", "\""));
                tested.add(new Sentence(Integer.parseInt(sentence.group(1)), Check.plain(words.toString()).trim()));
            }
        }
        return tested;
    }

    private static String between(String document, String first, String last) {
        int from = document.indexOf(first);
        int to = document.indexOf(last);
        Check.due(first + " is in the document", from >= 0 && to > from ? 1 : 0, 1);
        return from >= 0 && to > from ? document.substring(from + first.length(), to) : "";
    }

    /** What is left of a text without the sentences that are tested is no word. */
    private static void covered(String name, String text, List<String> sentences) {
        String plain = Check.plain(text);
        boolean[] tested = new boolean[plain.length()];
        for (String words : sentences) {
            for (int at = plain.indexOf(words); at >= 0; at = plain.indexOf(words, at + 1)) {
                for (int i = at; i < at + words.length(); i++) tested[i] = true;
            }
        }
        StringBuilder left = new StringBuilder();
        for (int i = 0; i < plain.length(); i++) {
            boolean begins = i > 0 && tested[i - 1] && !tested[i];
            if (begins) left.append(" .. ");
            if (!tested[i]) left.append(plain.charAt(i));
        }
        boolean words = Pattern.compile("[A-Za-z0-9]").matcher(left).find();
        Check.due("words of " + name + " that no test names: " + (words ? left : "none"), words ? 1 : 0, 0);
    }
}
