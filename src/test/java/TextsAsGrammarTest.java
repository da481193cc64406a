import java.util.ArrayList;
import java.util.HashSet;
import java.util.LinkedHashSet;
import java.util.List;
import java.util.Map;
import java.util.Random;
import java.util.Set;
import java.util.TreeMap;
import java.util.regex.Matcher;
import java.util.regex.Pattern;

/**
 * Promise 19: the FAULT of any text. The document's grammar is written out here as rows of what may stand, and all
 * ways to read a text are followed at once: a FAULT is where none of them goes on.
 */
final class TextsAsGrammarTest {
    private static final Pattern TOKENS = Pattern.compile("[a-z]+|[0-9]+|[^ ]", Pattern.DOTALL);
    private static final String[] WORDS = {"right", "rent", "lease", "alms", "pension", "debt", "pledge", "claim", "stand", "fall", "rank",
        "if", "and", "or", "not", "order", "amount", "above", "dated", "within", "held", "(", ")", ";", "0", "3", "4", "9", "10", "999",
        "1000", "x", ",", "heldheld"};
    /** By what it is told as: the rows that it may be. "#n" is a NUMBER up to n. */
    private static final Map<String, List<String[]>> GRAMMAR = new TreeMap<>();

    private record Item(String name, String[] row, int at, int from) {
        @Override
        public boolean equals(Object other) {
            return other instanceof Item item && item.row == row && item.at == at && item.from == from;
        }

        @Override
        public int hashCode() {
            return System.identityHashCode(row) * 31 + at * 1009 + from;
        }
    }

    public static void main(String[] args) {
        makeGrammar();
        Check.sentence(19, "FAULT: the place (from 0) of the first byte of the first NAME, NUMBER or other byte that can't stand there");
        for (String text : new String[] {"", "right stand;", "right rank 9 if held;"}) Check.due("fault of \"" + text + "\"", fault(text), -1);
        Check.due("fault at the end", fault("right stand"), 11);
        Check.due("fault of an eleventh", fault("alms fall;".repeat(10) + " alms"), 101);
        for (int seed = 1; seed <= 6000; seed++) compare(textOf(new Random(seed)));
        Check.finish();
    }

    private static void compare(String text) {
        FallenHouses x = new FallenHouses();
        if (text.isEmpty() || text.length() > 300) return;
        Check.feed(x, text);
        int fault = fault(text);
        Check.due("read \"" + text + "\"", x.read(0), fault < 0 ? 0 : -100 - fault);
    }

    private static void may(String name, String row) {
        GRAMMAR.computeIfAbsent(name, key -> new ArrayList<>()).add(row.isEmpty() ? new String[0] : row.split(" "));
    }

    private static void makeGrammar() {
        for (int k = 0; k <= 10; k++) {
            may("TEXT" + k, "");
            if (k < 10) may("TEXT" + k, "RULE ; TEXT" + (k + 1));
        }
        for (String tells : new String[] {"stand", "fall", "rank #9"}) {
            may("RULE", "KINDS " + tells);
            may("RULE", "KINDS " + tells + " if COND0");
        }
        may("KINDS", "KIND");
        may("KINDS", "KIND and KINDS");
        for (int i = 0; i < 8; i++) may("KIND", WORDS[i]);
        for (int open = 0; open <= 4; open++) {
            may("COND" + open, "ALL" + open);
            may("COND" + open, "ALL" + open + " or COND" + open);
            may("ALL" + open, "ONE" + open);
            may("ALL" + open, "ONE" + open + " and ALL" + open);
            for (String asks : new String[] {"order #3", "amount above #999", "dated within #999", "held", "not ONE" + open}) {
                may("ONE" + open, asks);
            }
            if (open < 4) may("ONE" + open, "( COND" + (open + 1) + " )");
        }
    }

    private static boolean fits(String told, String token) {
        if (!told.startsWith("#")) return told.equals(token);
        return token.matches("[0-9]{1,3}") && Integer.parseInt(token) <= Integer.parseInt(told.substring(1));
    }

    /** The place of the FAULT, or -1. */
    private static int fault(String text) {
        List<Set<Item>> ways = new ArrayList<>();
        Set<Item> first = new LinkedHashSet<>();
        for (String[] row : GRAMMAR.get("TEXT0")) first.add(new Item("TEXT0", row, 0, 0));
        ways.add(first);
        close(ways);
        Matcher token = TOKENS.matcher(text);
        while (token.find()) {
            Set<Item> next = new LinkedHashSet<>();
            for (Item item : ways.get(ways.size() - 1)) {
                if (item.at() < item.row().length && fits(item.row()[item.at()], token.group())) {
                    next.add(new Item(item.name(), item.row(), item.at() + 1, item.from()));
                }
            }
            if (next.isEmpty()) return token.start();
            ways.add(next);
            close(ways);
        }
        for (Item item : ways.get(ways.size() - 1)) {
            if (item.name().equals("TEXT0") && item.from() == 0 && item.at() == item.row().length) return -1;
        }
        return text.length();
    }

    /** What may begin at the latest place, and what is over there, as long as there is more of it. */
    private static void close(List<Set<Item>> ways) {
        int here = ways.size() - 1;
        Set<Item> all = ways.get(here);
        List<Item> line = new ArrayList<>(all);
        Set<String> empty = new HashSet<>();
        for (int i = 0; i < line.size(); i++) {
            Item item = line.get(i);
            List<Item> more = new ArrayList<>();
            if (item.at() == item.row().length) {
                if (item.from() == here) empty.add(item.name());
                for (Item waits : new ArrayList<>(ways.get(item.from()))) {
                    if (waits.at() < waits.row().length && waits.row()[waits.at()].equals(item.name())) {
                        more.add(new Item(waits.name(), waits.row(), waits.at() + 1, waits.from()));
                    }
                }
            } else if (GRAMMAR.containsKey(item.row()[item.at()])) {
                String name = item.row()[item.at()];
                for (String[] row : GRAMMAR.get(name)) more.add(new Item(name, row, 0, here));
                if (empty.contains(name)) more.add(new Item(item.name(), item.row(), item.at() + 1, item.from()));
            }
            for (Item one : more) {
                if (all.add(one)) line.add(one);
            }
        }
    }

    /** A TEXT as the grammar lets it be, in which then some tokens are other ones. */
    private static String textOf(Random random) {
        List<String> tokens = new ArrayList<>();
        int rules = random.nextInt(8) == 0 ? 9 + random.nextInt(3) : 1 + random.nextInt(2);
        for (int i = 0; i < rules; i++) {
            grow("RULE", tokens, random, rules > 3 ? 0 : 12);
            tokens.add(";");
        }
        int held = tokens.indexOf("held");
        for (int i = random.nextInt(6); i > 0 && held >= 0; i--, held++) {
            tokens.add(held + 1, ")");
            tokens.add(held, "(");
        }
        for (int i = random.nextInt(3); i > 0 && !tokens.isEmpty(); i--) {
            int at = random.nextInt(tokens.size());
            String word = WORDS[random.nextInt(WORDS.length)];
            switch (random.nextInt(4)) {
                case 0: tokens.remove(at); break;
                case 1: tokens.add(at, word); break;
                case 2: tokens.set(at, word); break;
                default: tokens = new ArrayList<>(tokens.subList(0, at));
            }
        }
        StringBuilder text = new StringBuilder();
        for (String token : tokens) {
            boolean part = text.length() > 0 && Character.isLetterOrDigit(text.charAt(text.length() - 1))
                && Character.isLetterOrDigit(token.charAt(0)) && random.nextInt(40) != 0;
            text.append(part || random.nextInt(6) == 0 ? " " : "").append(token);
        }
        return text.append(" ".repeat(random.nextInt(3))).toString();
    }

    private static void grow(String name, List<String> tokens, Random random, int room) {
        List<String[]> rows = GRAMMAR.get(name);
        if (rows == null) {
            tokens.add(name.startsWith("#") ? "" + random.nextInt(Integer.parseInt(name.substring(1)) + 1) : name);
            return;
        }
        String[] row = rows.get(random.nextInt(rows.size()));
        // without room the first row, that is the shortest one or leads to it
        if (tokens.size() > room) row = rows.get(name.equals("RULE") ? 2 * random.nextInt(3) : 0);
        for (String part : row) grow(part, tokens, random, room);
    }
}
