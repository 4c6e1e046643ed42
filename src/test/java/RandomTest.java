import java.lang.reflect.Method;
import java.util.ArrayList;
import java.util.Arrays;
import java.util.List;
import java.util.Random;

/**
 * Runs of calls by chance, the class against the Model; the seeds are fixed, so each run is the same each time.
 * An argument says how many runs (600 if none is given).
 */
public final class RandomTest {
    private static final int CALLS = 480;
    private static final int[] ODD = {-1, -2, 13, 14, 24, 25, 4096, Integer.MAX_VALUE, Integer.MIN_VALUE};
    private static final List<Method> METHODS = methods();

    private final Random random;
    private final int run;
    private final KinGoods x = new KinGoods();
    private final Model model = new Model();
    private final List<String> log = new ArrayList<>();

    private RandomTest(int run) {
        this.run = run;
        this.random = new Random(run);
    }

    public static void main(String[] args) {
        int runs = args.length > 0 ? Integer.parseInt(args[0]) : 600;
        int wrong = 0;
        for (int run = 1; run <= runs && wrong < 3; run++) {
            wrong += new RandomTest(run).goes() ? 0 : 1;
        }
        System.out.println(wrong == 0 ? runs + " runs by chance are as the model's" : wrong + " runs are not");
        if (wrong != 0) {
            System.exit(1);
        }
    }

    private static List<Method> methods() {
        List<Method> found = new ArrayList<>();
        for (Method method : KinGoods.class.getDeclaredMethods()) {
            if (java.lang.reflect.Modifier.isPublic(method.getModifiers())) {
                found.add(method);
            }
        }
        found.sort((a, b) -> a.getName().compareTo(b.getName()));
        return found;
    }

    private boolean goes() {
        boolean fine = run % 2 == 0 ? wild() : lively();
        if (!fine) {
            System.out.println("run " + run + ":");
            log.subList(Math.max(0, log.size() - 60), log.size()).forEach(System.out::println);
        }
        return fine;
    }

    private boolean wild() {
        boolean fine = true;
        for (int i = 0; i < 5; i++) {
            fine = fine && begin(random.nextInt(5));
        }
        while (fine && log.size() < CALLS) {
            fine = step();
        }
        return fine;
    }

    /** A family that lives and holds things, and what is asked of it: chance alone seldom comes so far. */
    private boolean lively() {
        String family = wholeFamily();
        int many = family.split(",").length;
        boolean fine = text(family, "family") && text(wholeRules(), "rules");
        for (int i = 0; i < 8; i++) {
            fine = fine && call("god", random.nextInt(12), random.nextInt(12)) && call("adopt", random.nextInt(12), random.nextInt(6));
        }
        for (int i = 0; i < 12; i++) {
            int kind = random.nextInt(4);
            int other = kind % 3 == 0 ? 12 : random.nextInt(many);
            fine = fine && call("thing", kind, random.nextInt(100), random.nextInt(many), other);
        }
        fine = fine && call("image") && kinOfAll();
        for (int i = 0; i < 3; i++) {
            fine = fine && ends(random.nextInt(8));
        }
        int dead = 0;
        for (int i = 0; i < 6; i++) {
            int p = random.nextInt(many);
            dead |= 1 << p;
            fine = fine && wedSomewhere(many) && call("dies", p) && thingsNow();
            fine = fine && call("explained", dead) && call("explained", dead | 1 << random.nextInt(12)) && call("paid");
            fine = fine && call("marry", random.nextInt(12), random.nextInt(12));
        }
        return fine && call("lots", 1 + random.nextInt(9)) && thingsNow() && call("restore") && thingsNow();
    }

    private boolean kinOfAll() {
        boolean fine = true;
        for (int p = 0; p < 12; p++) {
            int asked = random.nextInt(4);
            fine = fine && call("kin", p, 2) && call("kin", p, 3) && call("heir", p, asked) && call("told", p, 6);
        }
        return fine;
    }

    private boolean ends(int thing) {
        boolean fine = true;
        int set = smallSet();
        for (int end = 0; end <= 13; end++) {
            fine = fine && call("orders", set, thing, end);
        }
        return fine;
    }

    private boolean thingsNow() {
        boolean fine = true;
        for (int t = 0; t < 6; t++) {
            fine = fine && call("of", t, 2) && call("of", t, 3);
        }
        return fine && call("balance", random.nextInt(12)) && call("gathers", random.nextInt(12), random.nextInt(4));
    }

    private boolean wedSomewhere(int many) {
        boolean fine = call("sheet", 0, 0, 4);
        int first = random.nextInt(many);
        int n = 1 + random.nextInt(4);
        for (int i = 0; i < 4; i++) {
            fine = fine && call("item", 0, 0, i, (first + 5 * i) % many);
        }
        int thing = random.nextInt(8);
        for (int house = 0; house < 12; house++) {
            fine = fine && call("wed", thing, house, 0, 0, 0, n, random.nextInt(5) - 1);
        }
        return fine;
    }

    private String wholeFamily() {
        boolean free = random.nextBoolean();
        String text = familyText(free);
        for (int tries = 0; tries < 50 && (text.length() < 24 || !fits(text)); tries++) {
            text = familyText(free);
        }
        return text;
    }

    private String wholeRules() {
        return new String[] {"l:42;d:145;q:321", "l:045;j:42", "l:24;d:204;q:245", "l:12;d:01;q:0", "l:342;q:423;d:5"}[random.nextInt(5)];
    }

    private boolean begin(int how) {
        return switch (how) {
            case 0 -> text(familyText(false), "family");
            case 1 -> text(ruleText(), "rules");
            default -> call("sheet", random.nextInt(4), random.nextInt(3), random.nextInt(25));
        };
    }

    private boolean step() {
        int chosen = random.nextInt(100);
        if (chosen < 3) {
            return begin(random.nextInt(6));
        }
        if (chosen < 12) {
            return call("thing", random.nextInt(4), random.nextInt(100), somebody(), somebody());
        }
        if (chosen < 15) {
            return call("thing", random.nextInt(2) * 3, random.nextInt(100), somebody(), 12);
        }
        if (chosen < 18) {
            return call("person", random.nextInt(2), somebodyOrNone(), somebodyOrNone());
        }
        if (chosen < 21) {
            return call("item", random.nextInt(4), random.nextInt(3), random.nextInt(24), random.nextInt(13));
        }
        if (chosen < 23) {
            return call("orders", smallSet(), random.nextInt(6), random.nextInt(14));
        }
        if (chosen < 24) {
            return call("image") && call("dies", somebody()) && call("explained", smallSet());
        }
        if (chosen < 26) {
            return told();
        }
        Method method = METHODS.get(random.nextInt(METHODS.size()));
        long[] a = new long[method.getParameterCount()];
        for (int i = 0; i < a.length; i++) {
            a[i] = argument();
        }
        if (method.getName().equals("type") && random.nextInt(4) != 0) {
            return call("type", 0x206d2c7766613a30L >>> 8 * random.nextInt(8), 1 + random.nextInt(2));
        }
        if (method.getName().equals("lots") || method.getName().equals("family")) {
            return random.nextInt(5) != 0 || call(method.getName(), a);
        }
        return call(method.getName(), a);
    }

    /** A family that lives, with a row of deaths that can be, and all marriages that bring each thing anywhere. */
    private boolean told() {
        int sheet = random.nextInt(4);
        int lane = random.nextInt(3);
        int n = 1 + random.nextInt(4);
        boolean fine = call("sheet", sheet, lane, n);
        int first = random.nextInt(12);
        for (int i = 0; i < n; i++) {
            fine = fine && call("item", sheet, lane, i, (first + 5 * i) % 12);
        }
        int thing = random.nextInt(6);
        int house = random.nextInt(6);
        fine = fine && call("judged", sheet, lane, 0, n);
        for (int i = -1; i < 4; i++) {
            fine = fine && call("wed", thing, house, sheet, lane, 0, n, i);
        }
        return fine;
    }

    private int argument() {
        int chosen = random.nextInt(20);
        if (chosen == 0) {
            return ODD[random.nextInt(ODD.length)];
        }
        return chosen < 10 ? random.nextInt(4) : chosen < 19 ? random.nextInt(14) : random.nextInt(4096);
    }

    private int somebody() {
        return random.nextInt(10);
    }

    private int somebodyOrNone() {
        return random.nextInt(3) == 0 ? 12 : random.nextInt(12);
    }

    private int smallSet() {
        int set = 0;
        int many = random.nextInt(6);
        for (int i = 0; i < many; i++) {
            set |= 1 << random.nextInt(10);
        }
        return set;
    }

    private String familyText(boolean free) {
        StringBuilder text = new StringBuilder();
        int many = 1 + random.nextInt(12);
        for (int p = 0; p < many; p++) {
            text.append(p == 0 ? "" : ",").append(random.nextBoolean() ? 'm' : 'w');
            for (char sign : (free ? "fo" : "fos").toCharArray()) {
                // most parents fit by the model's own lights, as a text with a fault tells nothing of families
                for (int tries = 0; tries < 2 && p > 0; tries++) {
                    String more = "" + sign + (char) ('a' + random.nextInt(p));
                    if (fits(text + more)) {
                        text.append(more);
                        break;
                    }
                }
            }
        }
        return spoiled(text.toString());
    }

    private static boolean fits(String text) {
        Model model = new Model();
        for (char c : text.toCharArray()) {
            model.call("type", new long[] {c, 1});
        }
        return model.call("family", new long[0]) > 0;
    }

    private String ruleText() {
        StringBuilder text = new StringBuilder();
        int many = 1 + random.nextInt(4);
        int first = random.nextInt(4);
        for (int k = 0; k < many; k++) {
            text.append(k == 0 ? "" : ";").append("ldqj".charAt((first + 3 * k) % 4)).append(':');
            int digits = 1 + random.nextInt(3);
            int digit = random.nextInt(6);
            for (int i = 0; i < digits; i++) {
                text.append((digit + i * 5) % 6);
            }
        }
        return spoiled(text.toString());
    }

    private String spoiled(String text) {
        StringBuilder told = new StringBuilder(text);
        while (random.nextInt(3) == 0) {
            told.insert(random.nextInt(told.length() + 1), ' ');
        }
        if (random.nextInt(4) == 0) {
            int at = random.nextInt(told.length());
            told.setCharAt(at, "mwfosabcl,;:0156 dqjx".charAt(random.nextInt(21)));
        } else if (random.nextInt(6) == 0) {
            told.deleteCharAt(random.nextInt(told.length()));
        }
        return told.toString();
    }

    private boolean text(String text, String name) {
        boolean fine = true;
        for (int i = 0; i < text.length() && fine; i++) {
            long typed = model.call("type", new long[] {text.charAt(i), 1});
            fine = typed == x.type(text.charAt(i), 1);
        }
        log.add("text \"" + text + "\"");
        return fine && call(name);
    }

    private boolean call(String name, long... a) {
        long want = model.call(name, a);
        long got = answer(name, a);
        log.add(name + Arrays.toString(a) + " answered " + got + (got == want ? "" : ", the model's is " + want));
        return got == want;
    }

    private long answer(String name, long[] a) {
        for (Method method : METHODS) {
            if (method.getName().equals(name)) {
                Object[] values = new Object[a.length];
                for (int i = 0; i < a.length; i++) {
                    if (method.getParameterTypes()[i] == long.class) {
                        values[i] = a[i];
                    } else {
                        values[i] = (int) a[i];
                    }
                }
                try {
                    return ((Number) method.invoke(x, values)).longValue();
                } catch (ReflectiveOperationException e) {
                    throw new IllegalStateException(log + name + Arrays.toString(a), e);
                }
            }
        }
        throw new IllegalStateException(name);
    }
}
