import java.io.IOException;
import java.nio.file.Files;
import java.nio.file.Path;
import java.util.regex.Matcher;
import java.util.regex.Pattern;

/** What README.md shows of the class (promises 1, 4, 6, 7, 9, 14, 18, 19, 25) answers as it says there. */
final class ReadmeTest {
    /** The lines of the example, without their comments; they are run below as they stand here. */
    private static final String[] LINES = {
        "FallenHouses x = new FallenHouses();",
        "int house = x.house(1, 0, 100, 1);",
        "int person = x.person(0);",
        "x.thing(house, 0, 50);",
        "int debt = x.right(5, house, person, 200, 0, 900, 0, -1);",
        "x.feed(8391086215061268850L, 8);",
        "x.feed(996437601L, 4);",
        "int version = x.read(0);",
        "int had = x.fall(house);",
        "int gets = x.gets(debt);"};

    public static void main(String[] args) throws IOException {
        String readme = Files.readString(Path.of("README.md"));
        Matcher example = Pattern.compile("```java\n(.*?)```", Pattern.DOTALL).matcher(readme);
        Check.due("README.md has an example", example.find() ? 1 : 0, 1);
        String shown = example.group(1).replaceAll(" *//[^\n]*", "");
        Check.due("README.md's example is the one that is run", shown.equals(String.join("\n", LINES) + "\n") ? 1 : 0, 1);
        runExample();
        Check.finish();
    }

    private static void runExample() {
        FallenHouses x = new FallenHouses();
        int house = x.house(1, 0, 100, 1);
        int person = x.person(0);
        x.thing(house, 0, 50);
        int debt = x.right(5, house, person, 200, 0, 900, 0, -1);
        x.feed(8391086215061268850L, 8);
        x.feed(996437601L, 4);
        int version = x.read(0);
        int had = x.fall(house);
        int gets = x.gets(debt);
        Check.due("house", house, 0);
        Check.due("version", version, 0);
        Check.due("had", had, 150);
        Check.due("gets", gets, 150);
    }
}
