import java.util.ArrayList;
import java.util.List;
import java.util.function.Predicate;
import java.util.stream.Collectors;

/**
 * The document once more, in another manner: people and things are objects, a death goes step by step through all
 * things, orders are worked by recursion, texts are read by a table of states. RandomTest holds the class against it.
 */
final class Model {
    static final class Person {
        int number;
        boolean woman;
        boolean living = true;
        Person father;
        Person mother;
        Person spouse;
        Person godchild;
    }

    static final class Thing {
        int kind;
        int worth;
        Person holder;
        Person other;
        boolean lapsed;
        boolean ended;

        boolean held() {
            return !lapsed && !ended;
        }

        int holderNumber() {
            return lapsed ? 12 : ended ? 13 : holder.number;
        }
    }

    static final class World {
        List<Person> people = new ArrayList<>();
        List<Thing> things = new ArrayList<>();
        List<List<Integer>> rules = new ArrayList<>(List.of(List.of(0), List.of(1), List.of(3), List.of(5)));
        long draw = 1;

        Person at(int p) {
            return p >= 0 && p < people.size() ? people.get(p) : null;
        }

        World twin() {
            World twin = new World();
            for (Person p : people) {
                twin.add(p.woman, null, null).living = p.living;
            }
            for (Person p : people) {
                Person q = twin.people.get(p.number);
                q.father = twin.match(p.father);
                q.mother = twin.match(p.mother);
                q.spouse = twin.match(p.spouse);
                q.godchild = twin.match(p.godchild);
            }
            for (Thing t : things) {
                Thing u = new Thing();
                u.kind = t.kind;
                u.worth = t.worth;
                u.holder = twin.match(t.holder);
                u.other = twin.match(t.other);
                u.lapsed = t.lapsed;
                u.ended = t.ended;
                twin.things.add(u);
            }
            twin.rules = new ArrayList<>(rules);
            twin.draw = draw;
            return twin;
        }

        private Person match(Person p) {
            return p == null ? null : people.get(p.number);
        }

        Person add(boolean woman, Person father, Person mother) {
            Person p = new Person();
            p.number = people.size();
            p.woman = woman;
            p.father = father;
            p.mother = mother;
            people.add(p);
            return p;
        }

        List<Person> living(Predicate<Person> which) {
            return people.stream().filter(q -> q.living && which.test(q)).collect(Collectors.toList());
        }

        static boolean siblings(Person p, Person q) {
            if (p == null || q == null || p == q) {
                return false;
            }
            return p.father != null && p.father == q.father || p.mother != null && p.mother == q.mother;
        }

        static boolean cousins(Person p, Person q) {
            boolean near = siblings(p.father, q.father) || siblings(p.father, q.mother)
                || siblings(p.mother, q.father) || siblings(p.mother, q.mother);
            return near && p != q && !siblings(p, q);
        }

        List<Person> kin(Person p, int relation) {
            return switch (relation) {
                case 0 -> living(q -> !q.woman && (q.father == p || q.mother == p));
                case 1 -> living(q -> q.woman && (q.father == p || q.mother == p));
                case 2 -> living(q -> siblings(p, q));
                case 3 -> living(q -> cousins(p, q));
                case 4 -> living(q -> q == p.spouse);
                default -> living(q -> q == p.godchild);
            };
        }

        Person heir(Person p, int kind) {
            for (int relation : rules.get(kind)) {
                List<Person> found = kin(p, relation);
                if (!found.isEmpty()) {
                    return found.get(0);
                }
            }
            return null;
        }

        int death(Person p) {
            int held = 0;
            for (Thing t : things) {
                if (t.held() && t.holder == p) {
                    held++;
                    t.holder = heir(p, t.kind);
                    t.lapsed = t.holder == null;
                }
            }
            for (Thing t : things) {
                if (t.held() && t.other == p && t.holder != p) {
                    t.other = heir(p, t.kind == 1 ? 0 : 2);
                    t.lapsed = t.other == null;
                }
            }
            for (Thing t : things) {
                if (t.held() && t.holder == t.other) {
                    t.ended = true;
                }
                if (!t.held()) {
                    t.holder = null;
                    t.other = null;
                }
            }
            p.living = false;
            if (p.spouse != null) {
                p.spouse.spouse = null;
            }
            return held;
        }

        Person house(Person p) {
            if (p.woman && p.spouse != null) {
                return house(p.spouse);
            }
            return p.father == null ? p : house(p.father);
        }

        boolean canMarry(Person m, Person w) {
            return m != null && w != null && !m.woman && w.woman && m.living && w.living && m.spouse == null
                && w.spouse == null && !siblings(m, w) && w.father != m && m.mother != w;
        }

        void marry(Person m, Person w) {
            m.spouse = w;
            w.spouse = m;
        }

        int balance(Person p) {
            int sum = 0;
            for (Thing t : things) {
                if (t.held() && t.kind == 1) {
                    sum += t.other == p ? t.worth : t.holder == p ? -t.worth : 0;
                }
            }
            return sum;
        }

        int next(int among) {
            draw = (draw * 1103515245L + 12345L) % (1L << 31);
            return (int) (draw / 65536 % among);
        }

        String things() {
            StringBuilder told = new StringBuilder();
            for (Thing t : things) {
                told.append(t.kind).append(' ').append(t.worth).append(' ').append(t.holderNumber()).append(' ')
                    .append(number(t.other)).append(';');
            }
            return told.toString();
        }
    }

    static final class Sheet {
        int lane;
        int[] items;
    }

    private World now = new World();
    private World image = null;
    private String tape = "";
    private final Sheet[] sheets = new Sheet[4];

    static int number(Person p) {
        return p == null ? 12 : p.number;
    }

    long call(String name, long[] a) {
        return switch (name) {
            case "person" -> person(a[0], (int) a[1], (int) a[2]);
            case "marry" -> marry((int) a[0], (int) a[1]);
            case "adopt" -> adopt((int) a[0], (int) a[1]);
            case "god" -> god((int) a[0], (int) a[1]);
            case "told" -> told((int) a[0], (int) a[1]);
            case "kin" -> kin((int) a[0], (int) a[1]);
            case "thing" -> thing((int) a[0], (int) a[1], (int) a[2], (int) a[3]);
            case "of" -> of((int) a[0], (int) a[1]);
            case "rule" -> rule((int) a[0], a[1], (int) a[2]);
            case "heir" -> heir((int) a[0], (int) a[1]);
            case "type" -> type(a[0], (int) a[1]);
            case "family" -> family();
            case "rules" -> rules();
            case "count" -> count((int) a[0]);
            case "dies" -> dies((int) a[0]);
            case "gathers" -> gathers((int) a[0], (int) a[1]);
            case "balance" -> now.at((int) a[0]) == null ? -100000001 : now.balance(now.at((int) a[0]));
            case "paid" -> paid();
            case "orders" -> orders((int) a[0], (int) a[1], (int) a[2]);
            case "explained" -> explained((int) a[0]);
            case "lots" -> lots((int) a[0]);
            case "seed" -> seed((int) a[0]);
            case "image" -> image();
            case "restore" -> restore();
            case "judged" -> judged((int) a[0], (int) a[1], (int) a[2], (int) a[3]);
            case "wed" -> wed((int) a[0], (int) a[1], new int[] {(int) a[2], (int) a[3], (int) a[4], (int) a[5]}, (int) a[6]);
            case "film" -> film((int) a[0], (int) a[1], (int) a[2]);
            case "sheet" -> sheet((int) a[0], (int) a[1], (int) a[2]);
            case "drop" -> drop((int) a[0]);
            case "item" -> item((int) a[0], (int) a[1], (int) a[2], (int) a[3]);
            case "copy" -> copy((int) a[0], (int) a[1], (int) a[2], (int) a[3], (int) a[4]);
            default -> throw new IllegalStateException(name);
        };
    }

    private long person(long sex, int father, int mother) {
        boolean parents = (father == 12 || now.at(father) != null && !now.at(father).woman)
            && (mother == 12 || now.at(mother) != null && now.at(mother).woman);
        if (sex < 0 || sex > 1 || !parents) {
            return -1;
        }
        if (now.people.size() == 12) {
            return -3;
        }
        return now.add(sex == 1, now.at(father), now.at(mother)).number;
    }

    private long marry(int man, int woman) {
        Person m = now.at(man);
        Person w = now.at(woman);
        if (m == null || w == null || m.woman || !w.woman) {
            return -1;
        }
        if (!now.canMarry(m, w)) {
            return -2;
        }
        now.marry(m, w);
        return 1;
    }

    private long adopt(int child, int man) {
        Person c = now.at(child);
        Person m = now.at(man);
        if (c == null || m == null || m.woman || m.number >= c.number) {
            return -1;
        }
        if (!c.living || !m.living) {
            return -2;
        }
        int was = number(c.father);
        c.father = m;
        return was;
    }

    private long god(int person, int child) {
        Person p = now.at(person);
        if (p == null || person == child || child != 12 && now.at(child) == null) {
            return -1;
        }
        int was = number(p.godchild);
        p.godchild = now.at(child);
        return was;
    }

    private long told(int person, int what) {
        Person p = now.at(person);
        if (p == null || what < 0 || what > 6) {
            return -1;
        }
        int[] all = {p.woman ? 1 : 0, p.living ? 1 : 0, number(p.father), number(p.mother), number(p.spouse),
            number(p.godchild), now.house(p).number};
        return all[what];
    }

    private long kin(int person, int relation) {
        if (now.at(person) == null || relation < 0 || relation > 5) {
            return -1;
        }
        return now.kin(now.at(person), relation).stream().mapToInt(q -> 1 << q.number).sum();
    }

    private long thing(int kind, int worth, int holder, int other) {
        Person h = now.at(holder);
        Person o = now.at(other);
        if (kind < 0 || kind > 3 || worth < 0 || worth > 99 || h == null || !h.living) {
            return -1;
        }
        boolean sided = kind == 1 || kind == 2;
        if (sided ? o == null || !o.living || o == h : other != 12) {
            return -1;
        }
        if (now.things.size() == 12) {
            return -3;
        }
        Thing t = new Thing();
        t.kind = kind;
        t.worth = worth;
        t.holder = h;
        t.other = sided ? o : null;
        now.things.add(t);
        return now.things.size() - 1;
    }

    private Thing thingAt(int t) {
        return t >= 0 && t < now.things.size() ? now.things.get(t) : null;
    }

    private long of(int thing, int what) {
        Thing t = thingAt(thing);
        if (t == null || what < 0 || what > 3) {
            return -1;
        }
        return new int[] {t.kind, t.worth, t.holderNumber(), number(t.other)}[what];
    }

    private static long asNumber(List<Integer> row) {
        long sum = 0;
        for (int i = row.size() - 1; i >= 0; i--) {
            sum = sum * 8 + row.get(i);
        }
        return sum;
    }

    private long rule(int kind, long row, int n) {
        if (kind < 0 || kind > 3 || n < 1 || n > 3 || row < 0) {
            return -1;
        }
        List<Integer> digits = new ArrayList<>();
        long rest = row;
        for (int i = 0; i < n; i++) {
            digits.add((int) (rest % 8));
            rest /= 8;
        }
        if (rest != 0 || digits.stream().anyMatch(d -> d > 5) || digits.stream().distinct().count() != n) {
            return -1;
        }
        return asNumber(now.rules.set(kind, digits));
    }

    private long heir(int person, int kind) {
        Person p = now.at(person);
        if (p == null || kind < 0 || kind > 3) {
            return -1;
        }
        if (!p.living) {
            return -2;
        }
        Person found = now.heir(p, kind);
        return found == null ? -4 : found.number;
    }

    private long type(long w, int n) {
        if (n < 1 || n > 8) {
            return -1;
        }
        StringBuilder typed = new StringBuilder();
        long rest = w;
        for (int i = 0; i < n; i++) {
            typed.append((char) (rest & 255));
            rest >>>= 8;
        }
        if (typed.chars().anyMatch(c -> c < 32 || c > 126)) {
            return -1;
        }
        if (tape.length() + n > 120) {
            return -3;
        }
        tape += typed.reverse();
        return tape.length();
    }

    private String take() {
        String text = tape;
        tape = "";
        return text;
    }

    /** States: 0 a person must come, 1 behind the sex, 2 behind a father, 3 behind a mother, 4 behind a spouse, f o s. */
    private long family() {
        String text = take();
        World draft = new World();
        char state = '0';
        for (int i = 0; i < text.length(); i++) {
            char c = text.charAt(i);
            if (c == ' ') {
                continue;
            }
            Person last = draft.people.isEmpty() ? null : draft.people.get(draft.people.size() - 1);
            Person named = c >= 'a' && c <= 'l' && c - 'a' < draft.people.size() - 1 ? draft.people.get(c - 'a') : null;
            if (state == '0' && (c == 'm' || c == 'w')) {
                draft.add(c == 'w', null, null);
                state = '1';
            } else if (c == 'f' && state == '1' || c == 'o' && "12".indexOf(state) >= 0
                || c == 's' && "123".indexOf(state) >= 0) {
                state = c;
            } else if (state == 'f' && named != null && !named.woman) {
                last.father = named;
                state = '2';
            } else if (state == 'o' && named != null && named.woman) {
                last.mother = named;
                state = '3';
            } else if (state == 's' && named != null && named.woman != last.woman && named.spouse == null) {
                draft.marry(named, last);
                state = '4';
            } else if (c == ',' && "1234".indexOf(state) >= 0 && draft.people.size() < 12) {
                state = '0';
            } else {
                return -20 - i;
            }
        }
        if ("1234".indexOf(state) < 0) {
            return -20 - text.length();
        }
        draft.rules = now.rules;
        draft.draw = now.draw;
        now = draft;
        return now.people.size();
    }

    /** States: 0 a kind must come, 1 the colon, 2 the first digit, 3 a digit or the end of a rule. */
    private long rules() {
        String text = take();
        List<List<Integer>> draft = new ArrayList<>(now.rules);
        List<Integer> seen = new ArrayList<>();
        List<Integer> row = new ArrayList<>();
        int state = 0;
        for (int i = 0; i < text.length(); i++) {
            char c = text.charAt(i);
            if (c == ' ') {
                continue;
            }
            int kind = "ldqj".indexOf(c);
            if (state == 0 && kind >= 0 && !seen.contains(kind)) {
                seen.add(kind);
                row = new ArrayList<>();
                draft.set(kind, row);
                state = 1;
            } else if (state == 1 && c == ':') {
                state = 2;
            } else if (state >= 2 && c >= '0' && c <= '5' && row.size() < 3 && !row.contains(c - '0')) {
                row.add(c - '0');
                state = 3;
            } else if (state == 3 && c == ';' && seen.size() < 4) {
                state = 0;
            } else {
                return -20 - i;
            }
        }
        if (state != 3) {
            return -20 - text.length();
        }
        now.rules = draft;
        return seen.size();
    }

    private long count(int what) {
        return switch (what) {
            case 0 -> now.people.size();
            case 1 -> now.living(q -> true).size();
            case 2 -> now.things.size();
            case 3 -> now.things.stream().filter(Thing::held).count();
            case 4 -> now.things.stream().filter(t -> t.lapsed).count();
            case 5 -> now.things.stream().filter(t -> t.ended).count();
            case 6 -> now.things.stream().filter(t -> t.held() && t.kind == 0).mapToInt(t -> t.worth).sum();
            default -> -1;
        };
    }

    private long dies(int person) {
        Person p = now.at(person);
        return p == null ? -1 : !p.living ? -2 : now.death(p);
    }

    private long gathers(int house, int kind) {
        if (house < 0 || house > 11 || kind < 0 || kind > 3) {
            return -1;
        }
        return now.things.stream().filter(t -> t.held() && t.kind == kind && now.house(t.holder).number == house)
            .mapToInt(t -> t.worth).sum();
    }

    /** Whoever owes on balance pays to whom is owed on balance, till nobody owes. */
    private long paid() {
        int[] balances = now.people.stream().mapToInt(now::balance).toArray();
        long sum = 0;
        for (int from = 0; from < balances.length; from++) {
            for (int to = 0; to < balances.length; to++) {
                int part = Math.min(Math.max(0, -balances[from]), Math.max(0, balances[to]));
                balances[from] += part;
                balances[to] -= part;
                sum += part;
            }
        }
        return sum;
    }

    private static int rows(World from, List<Integer> left, Predicate<World> wanted) {
        if (left.isEmpty()) {
            return wanted.test(from) ? 1 : 0;
        }
        int sum = 0;
        for (int i = 0; i < left.size(); i++) {
            World then = from.twin();
            then.death(then.people.get(left.get(i)));
            List<Integer> rest = new ArrayList<>(left);
            rest.remove(i);
            sum += rows(then, rest, wanted);
        }
        return sum;
    }

    private static List<Integer> members(int set) {
        List<Integer> found = new ArrayList<>();
        for (int p = 0; p < 32; p++) {
            if ((set >>> p & 1) == 1) {
                found.add(p);
            }
        }
        return found;
    }

    private static boolean allLive(World world, List<Integer> set) {
        return set.stream().allMatch(p -> world.at(p) != null && world.at(p).living);
    }

    private long orders(int set, int thing, int end) {
        List<Integer> members = members(set);
        if (thingAt(thing) == null || end < 0 || end > 13 || members.size() > 5 || !allLive(now, members)) {
            return -1;
        }
        return rows(now, members, world -> world.things.get(thing).holderNumber() == end);
    }

    private long explained(int set) {
        List<Integer> members = members(set);
        if (set < 0 || set > 4095 || members.size() > 5) {
            return -1;
        }
        if (image == null) {
            return -4;
        }
        if (!allLive(image, members)) {
            return -1;
        }
        String wanted = now.things();
        return rows(image, members, world -> world.things().equals(wanted));
    }

    private long lots(int n) {
        if (n < 1 || n > 30) {
            return -1;
        }
        int sum = 0;
        for (int i = 0; i < n; i++) {
            if (now.next(3) == 0) {
                List<Person> living = now.living(q -> true);
                if (!living.isEmpty()) {
                    now.death(living.get(now.next(living.size())));
                    sum += 1;
                }
            } else {
                List<Person> wives = now.living(q -> q.woman && q.spouse != null);
                if (now.people.size() < 12 && !wives.isEmpty()) {
                    Person mother = wives.get(now.next(wives.size()));
                    now.add(now.next(2) == 1, mother.spouse, mother);
                    sum += 100;
                }
            }
        }
        return sum;
    }

    private long seed(int v) {
        if (v < 0) {
            return -1;
        }
        long was = now.draw;
        now.draw = v;
        return was;
    }

    private long image() {
        image = now.twin();
        return 1;
    }

    private long restore() {
        if (image == null) {
            return -4;
        }
        now = image.twin();
        return 1;
    }

    private long reach(int sheet, int lane, long from, long n) {
        if (sheet < 0 || sheet > 3 || lane < 0 || lane > 2) {
            return -1;
        }
        if (sheets[sheet] == null) {
            return -11;
        }
        if (sheets[sheet].lane != lane) {
            return -12;
        }
        return from < 0 || from + n > sheets[sheet].items.length ? -13 : 0;
    }

    private long judged(int sheet, int lane, int from, int n) {
        long found = n < 1 || n > 8 ? -1 : reach(sheet, lane, from, n);
        if (found != 0) {
            return found;
        }
        World then = now.twin();
        for (int i = 0; i < n; i++) {
            Person p = then.at(sheets[sheet].items[from + i]);
            if (p == null || !p.living) {
                return i;
            }
            then.death(p);
        }
        return -4;
    }

    private long wed(int thing, int house, int[] row, int i) {
        if (thingAt(thing) == null || house < 0 || house > 11 || row[3] < 1 || row[3] > 8 || i < -1 || i > 3) {
            return -1;
        }
        long found = judged(row[0], row[1], row[2], row[3]);
        if (found != -4) {
            return found >= 0 ? -2 : found;
        }
        for (int many = 0; many <= 2; many++) {
            List<Integer> pairs = wed(now, many, thing, house, row);
            if (pairs != null) {
                return i < 0 ? many : i < pairs.size() ? pairs.get(i) : -4;
            }
        }
        return -2;
    }

    private List<Integer> wed(World from, int many, int thing, int house, int[] row) {
        if (many == 0) {
            World then = from.twin();
            for (int k = 0; k < row[3]; k++) {
                then.death(then.people.get(sheets[row[0]].items[row[2] + k]));
            }
            Thing t = then.things.get(thing);
            return t.held() && then.house(t.holder).number == house ? new ArrayList<>() : null;
        }
        for (Person m : from.people) {
            for (Person w : from.people) {
                if (from.canMarry(m, w)) {
                    World then = from.twin();
                    then.marry(then.people.get(m.number), then.people.get(w.number));
                    List<Integer> rest = wed(then, many - 1, thing, house, row);
                    if (rest != null) {
                        rest.add(0, w.number);
                        rest.add(0, m.number);
                        return rest;
                    }
                }
            }
        }
        return null;
    }

    private static int fit(int lane, int v) {
        return lane == 0 ? (byte) v : lane == 1 ? (short) v : v;
    }

    private long film(int sheet, int lane, int from) {
        long found = reach(sheet, lane, from, now.things.size());
        if (found == 0) {
            for (Thing t : now.things) {
                sheets[sheet].items[from + now.things.indexOf(t)] = t.holderNumber();
            }
            return now.things.size();
        }
        return found;
    }

    private long sheet(int sheet, int lane, int n) {
        if (sheet < 0 || sheet > 3 || lane < 0 || lane > 2 || n > 24) {
            return -1;
        }
        if (n < 0) {
            return -14;
        }
        sheets[sheet] = new Sheet();
        sheets[sheet].lane = lane;
        sheets[sheet].items = new int[n];
        return n;
    }

    private long drop(int sheet) {
        if (sheet < 0 || sheet > 3) {
            return -1;
        }
        if (sheets[sheet] == null) {
            return -11;
        }
        int had = sheets[sheet].items.length;
        sheets[sheet] = null;
        return had;
    }

    private long item(int sheet, int lane, int i, int v) {
        long found = reach(sheet, lane, i, 1);
        if (found == 0) {
            sheets[sheet].items[i] = fit(lane, v);
            return 1;
        }
        return found;
    }

    private long copy(int from, int i, int to, int j, int n) {
        if (from < 0 || from > 3 || to < 0 || to > 3) {
            return -1;
        }
        if (sheets[from] == null || sheets[to] == null) {
            return -11;
        }
        if (sheets[from].lane != sheets[to].lane) {
            return -12;
        }
        int[] a = sheets[from].items;
        int[] b = sheets[to].items;
        if (n < 0 || i < 0 || j < 0 || (long) i + n > a.length || (long) j + n > b.length) {
            return -13;
        }
        System.arraycopy(a.clone(), i, b, j, n);
        return n;
    }
}
