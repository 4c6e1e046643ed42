import java.io.IOException;
import java.nio.file.Files;
import java.nio.file.Path;
import java.util.List;
import java.util.Map;
import java.util.Set;
import java.util.TreeMap;
import java.util.TreeSet;
import java.util.regex.Matcher;
import java.util.regex.Pattern;

/** The rules of LANGUAGE.md that a look at the program's text can tell. */
public final class LanguageTest {
    private static final Path SOURCE = Path.of("src/main/java/KinGoods.java");
    private static final List<String> FORBIDDEN = List.of("package", "import", "throw", "throws", "try", "catch", "finally",
        "synchronized", "assert", "native", "transient", "volatile", "strictfp", "double", "float", "protected", "Object",
        "Exception", "Error", "Thread", "Random", "Stream", "Map", "Set", "equals", "hashCode", "toString");
    private static final Set<String> LIBRARY = Set.of("System.arraycopy", "Integer.bitCount", "Math.max");

    private static final Set<String> NO_METHODS = Set.of("if", "for", "switch", "while");
    private static final int DEEPEST = 8;

    private static final Script script = new Script();

    public static void main(String[] args) throws IOException {
        String source = Files.readString(SOURCE);
        String code = withoutRemarks(source);
        for (String word : FORBIDDEN) {
            script.same("the word " + word, found(code, "\\b" + word + "\\b"), 0);
        }
        script.same("lambdas, method references", found(code, "->|::"), 0);
        script.same("signs beyond 127", source.chars().filter(c -> c > 127).count(), 0);
        script.same("static blocks", found(code, "\\bstatic\\s*\\{"), 0);
        script.same("static fields that are not final", found(code, "\\bstatic (?!final)(?!boolean \\w+\\()(?!int \\w+\\()\\w+"), 0);
        script.same("calls of the library", library(code), 0);
        script.same("a while without a for's bounds", found(code, "\\bwhile\\b|\\bdo\\b"), 0);
        script.same("classes", found(code, "\\bclass\\b"), 6);
        calls(bodies(code));
        script.end();
    }

    private static String withoutRemarks(String source) {
        return source.replaceAll("(?s)/\\*.*?\\*/", "").replaceAll("//[^\n]*", "");
    }

    private static int found(String code, String pattern) {
        Matcher matcher = Pattern.compile(pattern).matcher(code);
        int sum = 0;
        while (matcher.find()) {
            sum++;
        }
        return sum;
    }

    private static int library(String code) {
        Set<String> calls = new TreeSet<>();
        Matcher matcher = Pattern.compile("\\b(System|Integer|Long|Math|Arrays|String|StringBuilder|List|ArrayList)\\b(\\.\\w+)?").matcher(code);
        while (matcher.find()) {
            if (!LIBRARY.contains(matcher.group())) {
                calls.add(matcher.group());
            }
        }
        calls.forEach(System.out::println);
        return calls.size();
    }

    /** Each method by its name, those of one name in several classes as one, so that what calls go through is never told too low. */
    private static Map<String, String> bodies(String code) {
        Map<String, String> found = new TreeMap<>();
        Matcher matcher = Pattern.compile("(\\w+)\\(([^()]*)\\) \\{").matcher(code);
        while (matcher.find()) {
            String name = matcher.group(1);
            if (NO_METHODS.contains(name)) {
                continue;
            }
            int depth = 1;
            int at = matcher.end();
            while (depth > 0) {
                depth += code.charAt(at) == '{' ? 1 : code.charAt(at) == '}' ? -1 : 0;
                at++;
            }
            long lines = code.substring(matcher.start(), at).lines().count();
            script.same("a method of more than sixty lines: " + name, Math.max(60, lines), 60);
            script.same("more than seven parameters: " + name, Math.max(7, matcher.group(2).split(",").length), 7);
            found.merge(name, code.substring(matcher.end(), at), String::concat);
        }
        return found;
    }

    /** How many calls stand open at once at most from a method on; a method that comes back to itself is told as far too deep. */
    private static int depth(Map<String, String> bodies, String name, int above) {
        int deepest = 0;
        Matcher matcher = Pattern.compile("\\b(\\w+)\\(").matcher(bodies.get(name));
        while (matcher.find() && above < DEEPEST * 3) {
            if (bodies.containsKey(matcher.group(1))) {
                deepest = Math.max(deepest, depth(bodies, matcher.group(1), above + 1));
            }
        }
        return deepest + 1;
    }

    private static void calls(Map<String, String> bodies) {
        for (String name : bodies.keySet()) {
            script.same("calls more than eight deep: " + name, Math.max(DEEPEST, depth(bodies, name, 1)), DEEPEST);
            boolean makes = found(bodies.get(name), "\\bnew\\b") > 0 && Character.isLowerCase(name.charAt(0));
            script.same("objects made beside constructors: " + name, makes ? 1 : 0, 0);
        }
    }
}
