import java.lang.reflect.Method;
import java.util.ArrayList;
import java.util.HashMap;
import java.util.List;
import java.util.Map;

/**
 * Runs of calls told as text, each run on a new object. A line is "call(arguments) = answer", or "text "..."", which
 * types a text behind the tape; "#" begins a remark. An argument or answer is a number, the name of a constant, a set
 * like {0 3}, or (an answer) "fault 3" for the fault at place 3. Arguments with | between are called one behind the
 * other, each with the same answer.
 */
final class Script {
    /** The document says nothing of what an object answers behind so many. */
    private static final int LONGEST_RUN = 512;
    private static final Map<String, Method> METHODS = methods();

    /** Who is called by name: an object of the class, or the model of it. */
    interface Called {
        long ask(String name, long... told);
    }

    private int calls = 0;
    private int wrong = 0;

    void run(String title, String lines) {
        KinGoods x = new KinGoods();
        int number = 0;
        int before = calls;
        for (String line : lines.split("\n")) {
            number++;
            String told = withoutRemark(line).trim();
            if (told.isEmpty()) {
                continue;
            }
            if (told.startsWith("text ")) {
                type(x, told.substring(told.indexOf('"') + 1, told.lastIndexOf('"')));
            } else {
                check(title, number, x, told);
            }
        }
        if (calls - before > LONGEST_RUN) {
            throw new IllegalStateException(title + " is too long a run");
        }
    }

    /** Makes the calls of all lines, whatever they answer. */
    static void play(Called by, String lines) {
        for (String line : lines.split("\n")) {
            String told = withoutRemark(line).trim();
            if (told.startsWith("text ")) {
                for (char c : told.substring(told.indexOf('"') + 1, told.lastIndexOf('"')).toCharArray()) {
                    by.ask("type", c, 1);
                }
            } else if (!told.isEmpty()) {
                int open = told.indexOf('(');
                for (List<String> row : rows(told.substring(open + 1, told.lastIndexOf(')')))) {
                    by.ask(told.substring(0, open), row.stream().mapToLong(Script::value).toArray());
                }
            }
        }
    }

    void same(String what, long got, long want) {
        calls++;
        if (got != want) {
            wrong++;
            System.out.println(what + " answered " + got + ", due is " + want);
        }
    }

    void end() {
        System.out.println(wrong == 0 ? calls + " answers are as due" : wrong + " of " + calls + " answers are not");
        if (wrong != 0) {
            System.exit(1);
        }
    }

    static void type(KinGoods x, String text) {
        for (int at = 0; at < text.length(); at += 8) {
            int n = Math.min(8, text.length() - at);
            long w = 0;
            for (int i = 0; i < n; i++) {
                w = w << 8 | text.charAt(at + i);
            }
            if (x.type(w, n) < 0) {
                throw new IllegalStateException("the tape does not take " + text);
            }
        }
    }

    /** What an object answers to a call by its name. */
    static long ask(KinGoods x, String name, long... told) {
        Method method = METHODS.get(name);
        if (method == null || method.getParameterCount() != told.length) {
            throw new IllegalStateException("no such call: " + name + " of " + told.length);
        }
        Object[] values = new Object[told.length];
        for (int i = 0; i < values.length; i++) {
            if (method.getParameterTypes()[i] == long.class) {
                values[i] = told[i];
            } else {
                values[i] = (int) told[i];
            }
        }
        try {
            return ((Number) method.invoke(x, values)).longValue();
        } catch (ReflectiveOperationException e) {
            throw new IllegalStateException(name, e);
        }
    }

    private static Map<String, Method> methods() {
        Map<String, Method> found = new HashMap<>();
        for (Method method : KinGoods.class.getMethods()) {
            if (method.getDeclaringClass() == KinGoods.class) {
                found.put(method.getName(), method);
            }
        }
        return found;
    }

    private void check(String title, int number, KinGoods x, String told) {
        int equals = told.lastIndexOf('=');
        String call = told.substring(0, equals).trim();
        long want = value(told.substring(equals + 1).trim());
        int open = call.indexOf('(');
        String name = call.substring(0, open);
        for (List<String> row : rows(call.substring(open + 1, call.lastIndexOf(')')))) {
            long[] values = row.stream().mapToLong(Script::value).toArray();
            same(title + ", line " + number + ": " + name + row, ask(x, name, values), want);
        }
    }

    /** All rows of arguments that a line tells. */
    private static List<List<String>> rows(String told) {
        List<List<String>> found = new ArrayList<>();
        found.add(new ArrayList<>());
        for (String part : told.split(",")) {
            if (part.isBlank()) {
                continue;
            }
            List<List<String>> longer = new ArrayList<>();
            for (List<String> row : found) {
                for (String one : part.split("\\|")) {
                    List<String> more = new ArrayList<>(row);
                    more.add(one.trim());
                    longer.add(more);
                }
            }
            found = longer;
        }
        return found;
    }

    static long value(String told) {
        if (told.startsWith("{")) {
            long set = 0;
            for (String member : told.substring(1, told.indexOf('}')).trim().split(" +")) {
                set |= member.isEmpty() ? 0 : 1L << Integer.parseInt(member);
            }
            return set;
        }
        if (told.startsWith("fault ")) {
            return -20 - Long.parseLong(told.substring(6).trim());
        }
        return switch (told) {
            case "BAD" -> -1;
            case "NOT" -> -2;
            case "FULL" -> -3;
            case "NONE" -> -4;
            case "NULL" -> -11;
            case "CAST" -> -12;
            case "INDEX" -> -13;
            case "SIZE" -> -14;
            case "MAX" -> Integer.MAX_VALUE;
            case "MIN" -> Integer.MIN_VALUE;
            default -> Long.decode(told);
        };
    }

    private static String withoutRemark(String line) {
        int quote = line.lastIndexOf('"');
        int mark = line.indexOf('#', quote + 1);
        return mark < 0 ? line : line.substring(0, mark);
    }
}
