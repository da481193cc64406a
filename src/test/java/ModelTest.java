import java.lang.reflect.InvocationTargetException;
import java.lang.reflect.Method;
import java.util.ArrayList;
import java.util.Arrays;
import java.util.List;
import java.util.Map;
import java.util.Random;
import java.util.TreeMap;

/** Promises 1 to 59 in long runs of mixed calls: every answer is that of the Model, which tells the document anew. */
final class ModelTest {
    private static final int RUNS = 300, CALLS = 512;
    /** Of each call: how often it comes, and what its numbers are. */
    private static final String[] FACE = {"6 days n", "2 road place place road", "6 person day", "3 die person day",
        "6 house place order coin fear", "1 fall house", "8 houseOf house houseWhat", "8 thing house order worth", "6 thingOf thing five",
        "2 sell thing", "6 show hidden tenant", "2 strip house", "14 right kind house person amount from to of leans", "10 rightOf right eleven",
        "2 hangs right", "4 prove right", "2 text", "1 feed long few", "1 read act", "1 strike act", "3 version version rule", "6 stands fallen",
        "6 why fallen", "6 rank fallen", "8 gets debt", "6 pension person quarter", "6 witness lease person", "4 sealOf lease seal", "3 seal act day",
        "4 told lease day", "5 stay person place day", "8 shown lease", "5 value house hours", "4 due house day", "3 ride place set three",
        "3 row few three", "2 alterRow few three any", "1 dropRow", "4 judge", "4 lot worth", "3 buyer hours10", "1 clear", "3 sale goal lot",
        "8 deed field person person day amount", "6 title field day known", "6 quarrels field known", "6 owed person field day known",
        "2 order step", "4 sheet act sort size", "8 put act size any", "6 item act sort size", "8 comes act few", "6 shelf act shelfWhat right",
        "4 taken act as", "10 deal act act any", "3 trace few", "3 many fifteen", "1 keep", "1 again"};

    private final Random random;
    private final FallenHouses x = new FallenHouses();
    private final Model model = new Model();
    private final Map<String, Method> ofX = methods(FallenHouses.class), ofModel = methods(Model.class);
    private final List<String> told = new ArrayList<>();
    private int calls;

    private ModelTest(int seed) {
        random = new Random(seed);
    }

    public static void main(String[] args) throws ReflectiveOperationException {
        Check.sentence(1, "An object is used for at most 512 calls after it has been made");
        for (int seed = 1; seed <= RUNS; seed++) new ModelTest(seed).run("run " + seed);
        Check.finish();
    }

    private static Map<String, Method> methods(Class<?> one) {
        Map<String, Method> methods = new TreeMap<>();
        for (Method method : one.getDeclaredMethods()) {
            if (java.lang.reflect.Modifier.isPublic(method.getModifiers())) methods.put(method.getName(), method);
        }
        return methods;
    }

    private void run(String name) throws ReflectiveOperationException {
        // some calls come often in one run, and seldom in another one
        int[] weights = new int[FACE.length];
        int all = 0;
        for (int i = 0; i < FACE.length; i++) {
            weights[i] = Integer.parseInt(FACE[i].split(" ")[0]) * new int[] {1, 2, 2, 3, 8}[random.nextInt(5)];
            all += weights[i];
        }
        boolean same = true;
        while (calls < CALLS && same) {
            int at = random.nextInt(all);
            int i = 0;
            while (at >= weights[i]) at -= weights[i++];
            String[] call = FACE[i].split(" ");
            // what there is comes first
            boolean early = calls < 40;
            if (early && !List.of("person", "house", "thing", "right", "text", "road").contains(call[1])) continue;
            same = call[1].equals("text") ? feedText() : same(call);
        }
        Check.due(name + (same ? "" : " of " + told), same ? 1 : 0, 1);
    }

    private boolean same(String[] call) throws ReflectiveOperationException {
        Method method = ofX.get(call[1]);
        Object[] numbers = new Object[method.getParameterCount()];
        int[] ints = new int[numbers.length];
        for (int i = 0; i < numbers.length; i++) {
            ints[i] = number(call[i + 2], ints, i);
            numbers[i] = method.getParameterTypes()[i] == long.class ? (Object) random.nextLong() : (Object) ints[i];
        }
        return same(call[1], numbers);
    }

    private boolean same(String name, Object... numbers) throws ReflectiveOperationException {
        calls++;
        String call = name + Arrays.toString(numbers);
        Object got;
        try {
            got = ofX.get(name).invoke(x, numbers);
        } catch (InvocationTargetException e) {
            got = e.getCause();
        }
        Object due = ofModel.get(name).invoke(model, numbers);
        told.add(call + " " + due);
        if (got.equals(due)) return true;
        told.add("but answered " + got);
        return false;
    }

    private boolean feedText() throws ReflectiveOperationException {
        String text = textOf();
        boolean same = true;
        for (int i = 0; i < text.length() && same && calls < CALLS; i += 8) {
            int n = Math.min(8, text.length() - i);
            long eight = random.nextLong() << 8 * n - 8 << 8;
            for (int k = 0; k < n; k++) eight |= (long) text.charAt(i + k) << 8 * k;
            same = same("feed", eight, n);
        }
        return same && (calls >= CALLS || same("read", number("act", null, 0)));
    }

    private String any(String... words) {
        return words[random.nextInt(words.length)];
    }

    private String textOf() {
        StringBuilder text = new StringBuilder();
        int rules = random.nextInt(20) == 0 ? 11 : random.nextInt(5);
        if (random.nextBoolean()) text.append("right stand;");
        for (int i = 0; i < rules; i++) {
            text.append(any("right", "right", "rent", "lease", "alms", "pension", "debt", "debt", "pledge", "claim"));
            if (random.nextInt(4) == 0) text.append(" and ").append(any("right", "rent", "lease", "pledge", "claim"));
            text.append(" ").append(any("stand", "stand", "fall", "rank " + random.nextInt(10), "rank " + random.nextInt(3)));
            if (random.nextBoolean()) text.append(" if ").append(cond(0));
            text.append(";");
        }
        if (random.nextInt(12) == 0 && text.length() > 0) text.setCharAt(random.nextInt(text.length()), (char) (32 + random.nextInt(90)));
        return text.toString();
    }

    private String cond(int deep) {
        if (deep < 3 && random.nextInt(3) == 0) return cond(deep + 1) + any(" and ", " or ") + cond(deep + 1);
        if (random.nextInt(4) == 0) return "not " + any("held", "order " + random.nextInt(4), "(" + (deep < 3 ? cond(deep + 1) : "held") + ")");
        return any("held", "order " + random.nextInt(4), "amount above " + random.nextInt(100), "dated within " + random.nextInt(200),
            "(held or order " + random.nextInt(4) + ")");
    }

    /** Mostly such a number as may stand there, some by the numbers ahead of it. */
    private int number(String what, int[] ahead, int i) {
        if (random.nextInt(40) == 0) return any(Integer.MIN_VALUE, -1, 0, 4, 8, 10, 24, 1000, 3600, Integer.MAX_VALUE);
        int houses = Math.max(1, model.many(2));
        int rights = Math.max(1, model.many(4));
        switch (what) {
            case "n": return random.nextInt(3) > 0 ? 1 + random.nextInt(12) : 1 + random.nextInt(random.nextInt(8) == 0 ? 400 : 60);
            case "day": case "from": return day();
            case "to": return random.nextInt(12) == 0 ? day() : Math.min(3599, ahead[i - 1] + random.nextInt(500));
            case "person": return random.nextInt(Math.max(1, model.many(1)));
            case "house": return random.nextInt(houses);
            case "thing": return random.nextInt(Math.max(1, model.many(3)));
            case "right": return random.nextInt(rights);
            case "lease": return rightOf(2);
            case "debt": return rightOf(5 + random.nextInt(2));
            case "fallen": return fallen();
            case "hidden": return hidden();
            case "tenant": return model.rightOf(rightOf(2), 2) < 0 || random.nextInt(4) == 0 ? 0 : tenant(model.thingOf(ahead[0], 0));
            case "leans": return random.nextInt(3) == 0 ? random.nextInt(rights) : -1;
            case "kind": return any(0, 1, 1, 2, 2, 3, 4, 4, 5, 5, 6, 6, 7, 7);
            case "of": return of(ahead[0], ahead[1]);
            case "place": return random.nextInt(random.nextBoolean() ? 10 : 3);
            case "road": return 1 + random.nextInt(random.nextBoolean() ? 20 : 3);
            case "coin": return any(0, 10, 100, random.nextInt(600), random.nextInt(10000));
            case "fear": return 1 + random.nextInt(random.nextBoolean() ? 2 : 9);
            case "worth": return 1 + random.nextInt(random.nextBoolean() ? 99 : 5);
            case "amount": return any(10, 9, 11, 1 + random.nextInt(100), 1 + random.nextInt(999));
            case "quarter": return random.nextInt(3) == 0 ? random.nextInt(40) : model.many(0) / 90 + random.nextInt(3);
            case "hours": return random.nextInt(41);
            case "hours10": return random.nextInt(301);
            case "goal": return random.nextInt(random.nextBoolean() ? 100 : 901);
            case "set": return random.nextInt(3) == 0 ? random.nextInt(1 << houses) : 1 << random.nextInt(houses) | 1 << random.nextInt(houses);
            case "known": return any(model.many(0), model.many(0), random.nextInt(model.many(0) + 1), model.many(0) + 1);
            case "rule": return any(0, 1, 2, 3, 10 + random.nextInt(10), 30 + random.nextInt(10));
            case "version": return random.nextInt(Math.max(1, model.many(5)));
            case "lot": return any(0, 1, 10 + random.nextInt(8));
            case "step": return random.nextInt(houses + 1);
            case "houseWhat": return random.nextInt(6) == 0 ? 20 : random.nextInt(17);
            case "size": return random.nextInt(8) == 0 ? random.nextInt(42) - 1 : random.nextInt(6);
            case "any": return random.nextInt(3) == 0 ? random.nextInt() : random.nextInt(12) - 1;
            case "seal": return random.nextInt(5) - 1;
            case "as": return random.nextInt(15);
            case "long": return 0;
            case "sort": return any(-1, 0, 1, 1, 1, 2, 3, 4);
            case "shelfWhat": return any(0, 0, 0, 1, 2);
            case "field": return random.nextInt(random.nextInt(4) == 0 ? 6 : 2);
            default: return random.nextInt(Map.of("order", 4, "act", 4, "three", 3, "five", 5, "eleven", 11, "few", 9, "fifteen", 15).get(what));
        }
    }

    private int any(int... numbers) {
        return numbers[random.nextInt(numbers.length)];
    }

    private int day() {
        int near = model.many(0) + random.nextInt(25) - 12;
        return any(random.nextInt(3600), random.nextInt(60), Math.max(0, Math.min(3599, near)), Math.max(0, Math.min(3599, near - 180)));
    }

    private int rightOf(int kind) {
        int right = random.nextInt(Math.max(1, model.many(4)));
        for (int i = 0; i < 24 && model.rightOf(right, 0) != kind; i++) right = (right + 1) % Math.max(1, model.many(4));
        return right;
    }

    /** A RIGHT on a HOUSE that FELL, if it finds one. */
    private int fallen() {
        int right = random.nextInt(Math.max(1, model.many(4)));
        for (int i = 0; i < 24 && model.stands(right) < 0; i++) right = (right + 1) % Math.max(1, model.many(4));
        return right;
    }

    private int hidden() {
        int thing = random.nextInt(Math.max(1, model.many(3)));
        for (int i = 0; i < 24 && model.thingOf(thing, 3) != 1; i++) thing = (thing + 1) % Math.max(1, model.many(3));
        return thing;
    }

    /** Who holds a lease on a HOUSE, if there is one. */
    private int tenant(int house) {
        int right = rightOf(2);
        for (int i = 0; i < 24 && model.rightOf(right, 1) != house; i++) right = rightOf(2);
        return model.rightOf(right, 2);
    }

    private int of(int kind, int house) {
        if (random.nextInt(20) == 0) return random.nextInt(30);
        if (kind == 2) return day();
        if (kind == 7) return random.nextInt(Math.max(1, model.many(4)));
        if (kind != 6) return 0;
        int things = Math.max(1, model.many(3));
        int thing = random.nextInt(things);
        for (int i = 0; i < 24 && model.thingOf(thing, 0) != house; i++) thing = (thing + 1) % things;
        return thing;
    }
}
