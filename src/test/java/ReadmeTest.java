import java.io.IOException;
import java.lang.reflect.Method;
import java.lang.reflect.Modifier;
import java.nio.file.Files;
import java.nio.file.Path;
import java.util.ArrayList;
import java.util.List;
import java.util.regex.Matcher;
import java.util.regex.Pattern;

/** README.md shows every call of the face, with answers behind them; they hold. */
public final class ReadmeTest {
    private static final Pattern CALL = Pattern.compile("x\\.(\\w+\\([^)]*\\)); +// (-?\\w+)(:.*)?");
    private static final Pattern TEXT = Pattern.compile("type\\(x, (\".*\")\\);");
    /** The page shows how a text is typed by a method of one's own; that block is no run. */
    private static final String HELPER = "static void type(";

    private static final Script script = new Script();

    public static void main(String[] args) throws IOException {
        List<String> runs = runs(Files.readString(Path.of("README.md")));
        script.same("runs", runs.size(), 2);
        runs.forEach(run -> script.run("README", run));
        String all = String.join("", runs);
        for (Method method : KinGoods.class.getDeclaredMethods()) {
            if (Modifier.isPublic(method.getModifiers())) {
                script.same("shown: " + method.getName(), shows(all, method.getName()) ? 1 : 0, 1);
            }
        }
        script.end();
    }

    private static boolean shows(String lines, String name) {
        return lines.contains(name.equals("type") ? "\ntext " : "\n" + name + "(");
    }

    /** A block that makes an object begins a run; one that does not goes on with it. */
    private static List<String> runs(String page) {
        List<String> found = new ArrayList<>();
        Matcher block = Pattern.compile("(?s)```java\n(.*?)```").matcher(page);
        while (block.find()) {
            if (block.group(1).startsWith(HELPER)) {
                continue;
            }
            for (String line : block.group(1).split("\n")) {
                if (line.equals("KinGoods x = new KinGoods();")) {
                    found.add("");
                } else {
                    found.set(found.size() - 1, found.get(found.size() - 1) + "\n" + asScript(line));
                }
            }
        }
        return found;
    }

    private static String asScript(String line) {
        Matcher text = TEXT.matcher(line);
        if (text.matches()) {
            return "text " + text.group(1);
        }
        Matcher call = CALL.matcher(line);
        if (!call.matches()) {
            throw new IllegalStateException("README.md has a line that is no call with its answer: " + line);
        }
        return call.group(1) + " = " + call.group(2);
    }
}
