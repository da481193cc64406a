import java.io.IOException;
import java.lang.reflect.Field;
import java.lang.reflect.Method;
import java.lang.reflect.Modifier;
import java.nio.file.Files;
import java.nio.file.Path;
import java.util.ArrayList;
import java.util.HashSet;
import java.util.List;
import java.util.Set;
import java.util.regex.Matcher;
import java.util.regex.Pattern;

/** The rules of LANGUAGE.md that can be seen from the text and the face of the class. */
final class LanguageTest {
    private static final String SOURCE = "src/main/java/FallenHouses.java";

    public static void main(String[] args) throws IOException {
        String text = Files.readString(Path.of(SOURCE));
        String code = withoutCommentsAndTexts(text);
        words(code);
        face();
        classes();
        methods(code);
        Check.finish();
    }

    private static String withoutCommentsAndTexts(String text) {
        String pattern = "/\\*.*?\\*/|//[^\n]*|\"[^\"\n]*\"|'[^'\n]+'";
        return Pattern.compile(pattern, Pattern.DOTALL).matcher(text).replaceAll("0");
    }

    private static void words(String code) {
        for (String word : new String[] {"throw", "throws", "try", "catch", "finally", "synchronized", "assert", "import",
            "package", "protected", "native", "yield", "lambda", "equals", "hashCode", "toString", "Exact", "double", "float"}) {
            Check.due("word " + word, Pattern.compile("\\b" + word + "\\b").matcher(code).find() ? 1 : 0, 0);
        }
        Check.due("lambdas and method references", code.contains("->") || code.contains("::") ? 1 : 0, 0);
        Matcher library = Pattern.compile("\\b(System|Arrays|Math|Integer|Long|String|StringBuilder|List|ArrayList)\\.(\\w+)").matcher(code);
        Set<String> used = new HashSet<>();
        while (library.find()) used.add(library.group());
        used.removeAll(Set.of("System.arraycopy", "Math.min", "Math.max", "Math.abs", "Integer.bitCount"));
        Check.due("library calls that were not looked at: " + used, used.size(), 0);
        for (char sign : code.toCharArray()) {
            if (sign > 126) Check.due("sign " + (int) sign, 1, 0);
        }
    }

    /** The face is the document's: each method as it is told there, and nothing else that is not private. */
    private static void face() throws IOException {
        String document = Files.readString(Path.of("../shared/DOC.md"));
        String block = document.substring(document.indexOf("```java"), document.indexOf("## Terms"));
        Matcher told = Pattern.compile("public (int \\w+)\\(([^)]*)\\)").matcher(block);
        Set<String> due = new HashSet<>();
        while (told.find()) due.add(told.group(1) + "(" + told.group(2).replaceAll("(\\w+) \\w+", "$1").replace(" ", "") + ")");
        Set<String> names = new HashSet<>();
        int many = 0;
        for (Method method : FallenHouses.class.getDeclaredMethods()) {
            if (method.isSynthetic() || Modifier.isPrivate(method.getModifiers())) continue;
            StringBuilder types = new StringBuilder();
            for (Class<?> type : method.getParameterTypes()) types.append(types.length() == 0 ? "" : ",").append(type.getName());
            String face = method.getReturnType().getName() + " " + method.getName() + "(" + types + ")";
            Check.due(face + " is told", due.contains(face) ? 1 : 0, 1);
            Check.due(face + " is public", Modifier.isPublic(method.getModifiers()) ? 1 : 0, 1);
            names.add(method.getName());
            many++;
        }
        Check.due("methods", many, due.size());
        Check.due("promises with methods", many, 58);
        Check.due("constructors", FallenHouses.class.getConstructors().length, 1);
        Check.due("final and public", FallenHouses.class.getModifiers() & (Modifier.FINAL | Modifier.PUBLIC), Modifier.FINAL | Modifier.PUBLIC);
        for (Class<?> type : all()) {
            for (Method method : type.getDeclaredMethods()) {
                boolean isHidden = type != FallenHouses.class || Modifier.isPrivate(method.getModifiers());
                Check.due(type.getName() + "." + method.getName() + " bears a public name",
                    isHidden && !method.isSynthetic() && names.contains(method.getName()) ? 1 : 0, 0);
            }
        }
        for (Field field : FallenHouses.class.getDeclaredFields()) {
            boolean isTold = Set.of("BAD", "FULL", "NONE", "STATE").contains(field.getName());
            Check.due("field " + field.getName(), Modifier.isPublic(field.getModifiers()) == isTold ? 1 : 0, 1);
            Check.due("field " + field.getName(), isTold || Modifier.isPrivate(field.getModifiers()) ? 1 : 0, 1);
        }
    }

    private static List<Class<?>> all() {
        List<Class<?>> all = new ArrayList<>(List.of(FallenHouses.class.getDeclaredClasses()));
        all.add(FallenHouses.class);
        return all;
    }

    private static void classes() {
        Check.due("classes, twelve at most", Math.max(12, all().size()), 12);
        for (Class<?> type : all()) {
            int fields = 0;
            for (Field field : type.getDeclaredFields()) {
                if (field.isSynthetic()) continue;
                if (!Modifier.isStatic(field.getModifiers())) fields++;
                else Check.due(type + "." + field.getName() + " is final", Modifier.isFinal(field.getModifiers()) ? 1 : 0, 1);
            }
            Check.due(type + " has twenty fields at most", Math.max(20, fields), 20);
            Check.due(type + " is static", type == FallenHouses.class || Modifier.isStatic(type.getModifiers()) ? 1 : 0, 1);
            for (Method method : type.getDeclaredMethods()) {
                boolean isFace = type == FallenHouses.class && method.getName().equals("right");
                Check.due(method + " has seven parameters at most", Math.max(7, method.getParameterCount()), isFace ? 8 : 7);
            }
        }
    }

    /** Methods of some sixty lines: between a line that opens one and the brace that ends it. */
    private static void methods(String code) {
        String[] lines = code.split("\n");
        for (int i = 0; i < lines.length; i++) {
            Matcher head = Pattern.compile("^( {4}| {8})(?! )[^=;]*\\) \\{$").matcher(lines[i]);
            if (!head.find()) continue;
            int end = i;
            while (!lines[end].equals(head.group(1) + "}")) end++;
            Check.due("lines of " + lines[i].trim(), Math.max(60, end - i), 60);
        }
    }
}
