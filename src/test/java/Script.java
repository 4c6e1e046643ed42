import java.lang.reflect.Method;
import java.util.ArrayList;
import java.util.List;

/**
 * Runs of calls told as text, each run on a new object. A line is "call(arguments) = answer", or "text "..."", which
 * types a text behind the tape; "#" begins a remark. An argument or answer is a number, the name of a constant, a set
 * like {0 3}, or (an answer) "fault 3" for the fault at place 3.
 */
final class Script {
    private int calls = 0;
    private int wrong = 0;

    void run(String title, String lines) {
        KinGoods x = new KinGoods();
        int number = 0;
        for (String line : lines.split("\n")) {
            number++;
            String told = withoutRemark(line).trim();
            if (told.isEmpty()) {
                continue;
            }
            if (told.startsWith("text ")) {
                type(x, told.substring(told.indexOf('"') + 1, told.lastIndexOf('"')));
            } else {
                check(title, number, x, told);
            }
        }
    }

    void same(String what, long got, long want) {
        calls++;
        if (got != want) {
            wrong++;
            System.out.println(what + " answered " + got + ", due is " + want);
        }
    }

    void end() {
        System.out.println(wrong == 0 ? calls + " answers are as due" : wrong + " of " + calls + " answers are not");
        if (wrong != 0) {
            System.exit(1);
        }
    }

    static void type(KinGoods x, String text) {
        for (int at = 0; at < text.length(); at += 8) {
            int n = Math.min(8, text.length() - at);
            long w = 0;
            for (int i = 0; i < n; i++) {
                w = w << 8 | text.charAt(at + i);
            }
            if (x.type(w, n) < 0) {
                throw new IllegalStateException("the tape does not take " + text);
            }
        }
    }

    private void check(String title, int number, KinGoods x, String told) {
        int equals = told.lastIndexOf('=');
        String call = told.substring(0, equals).trim();
        same(title + ", line " + number + ": " + call, answer(x, call), value(told.substring(equals + 1).trim()));
    }

    private static long answer(KinGoods x, String call) {
        int open = call.indexOf('(');
        List<String> told = arguments(call.substring(open + 1, call.lastIndexOf(')')));
        for (Method method : KinGoods.class.getMethods()) {
            if (method.getName().equals(call.substring(0, open)) && method.getParameterCount() == told.size()) {
                return invoke(x, method, told);
            }
        }
        throw new IllegalStateException("no such call: " + call);
    }

    private static long invoke(KinGoods x, Method method, List<String> told) {
        Object[] values = new Object[told.size()];
        for (int i = 0; i < values.length; i++) {
            long v = value(told.get(i));
            if (method.getParameterTypes()[i] == long.class) {
                values[i] = v;
            } else {
                values[i] = (int) v;
            }
        }
        try {
            return ((Number) method.invoke(x, values)).longValue();
        } catch (ReflectiveOperationException e) {
            throw new IllegalStateException(method.getName() + told, e);
        }
    }

    private static List<String> arguments(String told) {
        List<String> found = new ArrayList<>();
        for (String part : told.split(",")) {
            if (!part.isBlank()) {
                found.add(part.trim());
            }
        }
        return found;
    }

    private static long value(String told) {
        if (told.startsWith("{")) {
            long set = 0;
            for (String member : told.substring(1, told.indexOf('}')).trim().split(" +")) {
                set |= member.isEmpty() ? 0 : 1L << Integer.parseInt(member);
            }
            return set;
        }
        if (told.startsWith("fault ")) {
            return -20 - Long.parseLong(told.substring(6).trim());
        }
        return switch (told) {
            case "BAD" -> -1;
            case "NOT" -> -2;
            case "FULL" -> -3;
            case "NONE" -> -4;
            case "NULL" -> -11;
            case "CAST" -> -12;
            case "INDEX" -> -13;
            case "SIZE" -> -14;
            case "MAX" -> Integer.MAX_VALUE;
            case "MIN" -> Integer.MIN_VALUE;
            default -> Long.decode(told);
        };
    }

    private static String withoutRemark(String line) {
        int quote = line.lastIndexOf('"');
        int mark = line.indexOf('#', quote + 1);
        return mark < 0 ? line : line.substring(0, mark);
    }
}
