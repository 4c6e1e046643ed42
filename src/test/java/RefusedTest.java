import java.util.ArrayList;
import java.util.Arrays;
import java.util.LinkedHashMap;
import java.util.List;
import java.util.Map;

/**
 * "What is refused changes nothing, but as told": from some states on, each argument of each call goes through numbers
 * at and beyond all bounds. The answer is the model's, and behind a refusal, or a call that only asks, everything that
 * can be asked for is as it would have been without it.
 */
public final class RefusedTest {
    private static final long[] VALUES = {Integer.MIN_VALUE, -100, -13, -3, -2, -1, 0, 1, 2, 3, 4, 5, 6, 7, 8, 9, 10, 11, 12, 13, 14, 15,
        23, 24, 25, 26, 30, 31, 32, 63, 64, 98, 99, 100, 120, 121, 126, 127, 255, 4094, 4095, 4096, 65536, Integer.MAX_VALUE};
    private static final List<String> ASKING = List.of("told", "kin", "of", "heir", "count", "gathers", "balance", "paid", "orders",
        "explained", "judged", "wed");

    private static final String LIVELY = """
        text "m,wsa,mfaob,wfaob,mfc,w,m,w"
        family()
        god(0, 4)
        god(6, 0)
        text "l:024;d:14;q:2;j:51"
        rules()
        thing(0, 10, 0, 12)
        thing(1, 20, 0, 3)
        thing(2, 30, 5, 0)
        thing(3, 40, 6, 12)
        thing(1, 50, 2, 6)
        seed(77)
        image()
        dies(0)
        dies(7)
        marry(6, 5)
        seed(99)
        rule(3, 12, 2)
        sheet(0, 0, 5)
        sheet(1, 1, 24)
        sheet(2, 0, 0)
        item(0, 0, 1, 4)
        item(0, 0, 2, 2)
        item(0, 0, 3, 12)
        item(1, 1, 0, 6)
        item(1, 1, 23, 5)
        text "m, w"
        """;
    private static final String FULL = """
        text "m,wsa,mfaob,wfaob,mfaob,wfaob,m,w,m,w,m,wsk"
        family()
        thing(0, 1|2|3, 0, 12)
        thing(1, 4|5|6, 0, 11)
        thing(2, 7|8|9, 11, 2)
        thing(3, 10|11|12, 11, 12)
        image()
        sheet(0|3, 2, 24)
        sheet(1, 2, 8)
        item(1, 2, 3, 7)
        item(3, 2, 0, 11)
        text "                                                            "
        text "                                                            "
        """;
    private static final String DEAD = """
        text "m,wsa,mfaob"
        family()
        thing(0, 1, 0, 12)
        thing(1, 1, 0, 2)
        dies(0|1|2)
        sheet(0, 1, 3)
        """;

    private static final Script script = new Script();

    public static void main(String[] args) {
        Map<String, String> states = new LinkedHashMap<>();
        states.put("new", "");
        states.put("lively", LIVELY);
        states.put("full", FULL);
        states.put("dead", DEAD);
        states.forEach((name, lines) -> {
            String before = allOf(lines, "");
            bases().forEach((call, rows) -> {
                for (long[] row : rows) {
                    sweep(name + ": ", lines, before, call, row);
                }
            });
            texts(name, lines);
        });
        script.end();
    }

    /** Rows of arguments from which one at a time goes through all values. */
    private static Map<String, long[][]> bases() {
        Map<String, long[][]> found = new LinkedHashMap<>();
        found.put("person", new long[][] {{0, 12, 12}, {1, 2, 3}});
        found.put("marry", new long[][] {{6, 3}, {4, 5}, {0, 1}});
        found.put("adopt", new long[][] {{4, 2}, {6, 0}});
        found.put("god", new long[][] {{2, 12}, {0, 3}});
        found.put("told", new long[][] {{1, 4}, {3, 6}});
        found.put("kin", new long[][] {{2, 2}, {0, 4}});
        found.put("thing", new long[][] {{0, 5, 2, 12}, {1, 5, 2, 3}, {2, 99, 5, 6}, {3, 0, 6, 12}});
        found.put("of", new long[][] {{0, 2}, {1, 3}});
        found.put("rule", new long[][] {{0, 1, 1}, {2, 8, 2}, {3, 10, 3}});
        found.put("heir", new long[][] {{1, 0}, {2, 1}});
        found.put("type", new long[][] {{0x6d, 1}, {0x6d6d6d6d6d6d6d6dL, 8}});
        found.put("count", new long[][] {{0}});
        found.put("dies", new long[][] {{2}});
        found.put("gathers", new long[][] {{0, 0}, {6, 1}});
        found.put("balance", new long[][] {{0}});
        found.put("orders", new long[][] {{6, 0, 12}, {44, 1, 2}});
        found.put("explained", new long[][] {{1}});
        found.put("lots", new long[][] {{1}});
        found.put("seed", new long[][] {{5}});
        found.put("judged", new long[][] {{0, 0, 0, 1}, {1, 1, 22, 2}, {3, 2, 17, 7}});
        found.put("wed", new long[][] {{0, 0, 0, 0, 1, 2, -1}, {1, 6, 1, 1, 23, 1, 0}, {3, 1, 0, 2, 0, 1, 2}});
        found.put("film", new long[][] {{0, 0, 0}, {1, 1, 19}, {3, 2, 12}, {2, 0, 0}});
        found.put("sheet", new long[][] {{0, 0, 5}, {3, 2, 24}});
        found.put("drop", new long[][] {{0}});
        found.put("item", new long[][] {{0, 0, 4, 3}, {1, 1, 23, 2}, {3, 2, 0, 1}});
        found.put("copy", new long[][] {{0, 1, 0, 2, 2}, {1, 0, 1, 20, 4}, {0, 3, 3, 0, 20}, {0, 0, 2, 0, 0}});
        return found;
    }

    private static void sweep(String title, String lines, String before, String call, long[] row) {
        for (int at = 0; at < row.length; at++) {
            for (long v : VALUES) {
                long[] told = row.clone();
                told[at] = v;
                one(title, lines, before, call, told);
            }
        }
    }

    private static void one(String title, String lines, String before, String call, long[] told) {
        KinGoods x = played(lines, "");
        Model model = new Model();
        Script.play(model::call, lines);
        long got = Script.ask(x, call, told);
        String line = call + "(" + String.join(", ", Arrays.stream(told).mapToObj(Long::toString).toList()) + ")";
        script.same(title + line, got, model.call(call, told));
        if (got < 0 || ASKING.contains(call)) {
            String behind = allOf(lines, line);
            script.same(title + line + " changes something", before.equals(behind) ? 1 : 0, 1);
        }
    }

    /** A fault of a text leaves all as it was, but for the tape, which is empty then. */
    private static void texts(String name, String lines) {
        String emptied = lines + "\nrules()\nfamily()\n";
        String before = allOf(emptied, "");
        for (String text : List.of("x", "m,mfa,wsc", "l:1;d:6", "l:1;d:2;q:3;j:4;", "m,m,m,m,m,m,m,m,m,m,m,m,", " ")) {
            for (String call : List.of("family()", "rules()")) {
                String typed = "text \"" + text + "\"\n" + call;
                script.same(name + ": " + typed + " changes something", before.equals(allOf(emptied, typed)) ? 1 : 0, 1);
            }
        }
    }

    private static KinGoods played(String lines, String more) {
        KinGoods x = new KinGoods();
        Script.play((name, told) -> Script.ask(x, name, told), lines + "\n" + more);
        return x;
    }

    /** All that can be asked for, on three objects, as asking for all would be too many calls for one. */
    private static String allOf(String lines, String more) {
        List<Integer> found = new ArrayList<>();
        KinGoods x = played(lines, more);
        askAll(x, found);
        KinGoods y = played(lines, more);
        askSheets(y, found);
        found.add(y.rule(0, 0, 1));
        found.add(y.rule(1, 0, 1));
        found.add(y.rule(2, 0, 1));
        found.add(y.rule(3, 0, 1));
        found.add(y.seed(0));
        found.add(y.family());
        KinGoods z = played(lines, more);
        found.add(z.rules());
        found.add(z.restore());
        found.add(z.seed(0));
        askAll(z, found);
        return found.toString();
    }

    private static void askAll(KinGoods x, List<Integer> into) {
        for (int p = 0; p < 12; p++) {
            for (int what = 0; what < 7; what++) {
                into.add(x.told(p, what));
            }
            for (int k = 0; k < 4; k++) {
                into.add(x.heir(p, k));
                into.add(x.of(p, k));
                into.add(x.gathers(p, k));
            }
            into.add(x.kin(p, 3));
            into.add(x.balance(p));
        }
        for (int what = 0; what < 7; what++) {
            into.add(x.count(what));
        }
        into.add(x.paid());
        into.add(x.explained(0));
    }

    private static void askSheets(KinGoods x, List<Integer> into) {
        for (int s = 0; s < 4; s++) {
            for (int lane = 0; lane < 3; lane++) {
                into.add(x.judged(s, lane, 0, 1));
                for (int i = 1; i < 24 && x.judged(s, lane, i, 1) > KinGoods.NULL; i++) {
                    into.add(x.judged(s, lane, i, 1));
                }
            }
            into.add(x.drop(s));
        }
    }
}
