/**
 * An estate that is dealt in kinds, each to its own sort of heir by rules. DOC.md numbers the promises; every refusal
 * is an answer, and no call makes an object, so that a run's room holds only what the constructor made.
 */
public final class KinGoods {
    public static final int BAD = -1, NOT = -2, FULL = -3, NONE = -4, NULL = -11, CAST = -12, INDEX = -13, SIZE = -14;

    private static final int FINE = 0;
    /** As many people as there can be, and as many things. */
    private static final int MOST = 12;
    private static final int ALL = 4095;
    private static final int NOBODY = 12;
    /** Stands for the holder, as ENDED does; it is NOBODY's number, so an heir who is nobody lapses a thing. */
    private static final int LAPSED = 12;
    private static final int ENDED = 13;
    private static final int MAN = 0;
    private static final int WOMAN = 1;
    private static final int LAND = 0;
    private static final int DEBT = 1;
    private static final int QUARREL = 2;
    private static final int JOKE = 3;
    private static final int KINDS = 4;
    private static final int SON = 0;
    private static final int DAUGHTER = 1;
    private static final int SIBLING = 2;
    private static final int COUSIN = 3;
    private static final int SPOUSE = 4;
    private static final int GODCHILD = 5;
    private static final int LONGEST_RULE = 3;
    private static final int MOST_WORTH = 99;
    private static final int MOST_ORDERED = 5;
    private static final int LONGEST_ROW = 8;
    private static final int MOST_LOTS = 30;
    /** What a refusal is less by where a told number may be below 0. */
    private static final int FAR_BELOW = 100000000;

    private final Estate now;
    private final Estate kept;
    private final Estate trial;
    private final Tape tape;
    private final Sheets sheets;
    private final Orders rows;
    private final Suit suit;
    private boolean imaged;

    public KinGoods() {
        now = new Estate();
        kept = new Estate();
        trial = new Estate();
        tape = new Tape();
        sheets = new Sheets();
        rows = new Orders();
        suit = new Suit();
        imaged = false;
    }

    // ---- 1 people, things, rules

    public int person(int sex, int father, int mother) {
        if (sex != MAN && sex != WOMAN) {
            return BAD;
        }
        if (father != NOBODY && !now.isOf(father, MAN)) {
            return BAD;
        }
        if (mother != NOBODY && !now.isOf(mother, WOMAN)) {
            return BAD;
        }
        return now.addPerson(sex, father, mother);
    }

    public int marry(int man, int woman) {
        if (!now.isOf(man, MAN) || !now.isOf(woman, WOMAN)) {
            return BAD;
        }
        return now.join(man, woman) ? 1 : NOT;
    }

    public int adopt(int child, int man) {
        if (!now.known(child) || !now.isOf(man, MAN) || man >= child) {
            return BAD;
        }
        if (!now.lives(child) || !now.lives(man)) {
            return NOT;
        }
        int was = now.father[child];
        now.father[child] = man;
        return was;
    }

    public int god(int person, int child) {
        if (!now.known(person) || child == person) {
            return BAD;
        }
        if (child != NOBODY && !now.known(child)) {
            return BAD;
        }
        int was = now.godchild[person];
        now.godchild[person] = child;
        return was;
    }

    public int told(int person, int what) {
        if (!now.known(person)) {
            return BAD;
        }
        switch (what) {
            case 0: return now.sex[person];
            case 1: return now.lives(person) ? 1 : 0;
            case 2: return now.father[person];
            case 3: return now.mother[person];
            case 4: return now.spouse[person];
            case 5: return now.godchild[person];
            case 6: return now.houseOf(person);
            default: return BAD;
        }
    }

    public int kin(int person, int relation) {
        if (!now.known(person) || relation < SON || relation > GODCHILD) {
            return BAD;
        }
        return now.related(person, relation);
    }

    public int thing(int kind, int worth, int holder, int other) {
        if (!isKind(kind) || worth < 0 || worth > MOST_WORTH || !now.lives(holder)) {
            return BAD;
        }
        if (hasOtherSide(kind)) {
            if (!now.lives(other) || other == holder) {
                return BAD;
            }
        } else if (other != NOBODY) {
            return BAD;
        }
        return now.addThing(kind, worth, holder, other);
    }

    public int of(int thing, int what) {
        if (!now.isThing(thing)) {
            return BAD;
        }
        switch (what) {
            case 0: return now.kind[thing];
            case 1: return now.worth[thing];
            case 2: return now.holder[thing];
            case 3: return now.other[thing];
            default: return BAD;
        }
    }

    public int rule(int kind, int row, int n) {
        if (!isKind(kind) || n < 1 || n > LONGEST_RULE || !isRow(row, n)) {
            return BAD;
        }
        int was = now.ruleRow[kind];
        now.setRule(kind, row, n);
        return was;
    }

    public int heir(int person, int kind) {
        if (!now.known(person) || !isKind(kind)) {
            return BAD;
        }
        if (!now.lives(person)) {
            return NOT;
        }
        int found = now.heirBy(person, kind);
        return found == NOBODY ? NONE : found;
    }

    public int type(long w, int n) {
        return tape.put(w, n);
    }

    public int family() {
        trial.takeFrom(now);
        trial.clear();
        tape.open();
        int read = tape.readPeople(trial);
        tape.empty();
        if (read > 0) {
            now.takeFrom(trial);
        }
        return read;
    }

    public int rules() {
        trial.takeFrom(now);
        tape.open();
        int read = tape.readRules(trial);
        tape.empty();
        if (read > 0) {
            now.takeFrom(trial);
        }
        return read;
    }

    public int count(int what) {
        switch (what) {
            case 0: return now.people;
            case 1: return Integer.bitCount(now.living);
            case 2: return now.things;
            case 3: return now.things - now.heldBy(LAPSED) - now.heldBy(ENDED);
            case 4: return now.heldBy(LAPSED);
            case 5: return now.heldBy(ENDED);
            case 6: return now.worthOfLands();
            default: return BAD;
        }
    }

    // ---- 2 deaths

    public int dies(int person) {
        if (!now.known(person)) {
            return BAD;
        }
        if (!now.lives(person)) {
            return NOT;
        }
        int held = now.heldBy(person);
        now.death(person);
        return held;
    }

    public int gathers(int house, int kind) {
        if (house < 0 || house >= MOST || !isKind(kind)) {
            return BAD;
        }
        int sum = 0;
        for (int t = 0; t < now.things; t++) {
            if (now.kind[t] == kind && now.isIn(t, house)) {
                sum += now.worth[t];
            }
        }
        return sum;
    }

    public int balance(int person) {
        if (!now.known(person)) {
            return BAD - FAR_BELOW;
        }
        return now.owedTo(person);
    }

    /** Each payment lowers what is owed to somebody by no more than itself, and one can pay so that none is wasted. */
    public int paid() {
        int sum = 0;
        for (int p = 0; p < now.people; p++) {
            sum += Math.max(0, now.owedTo(p));
        }
        return sum;
    }

    // ---- 3 orders, lots

    public int orders(int set, int thing, int end) {
        if (!now.isThing(thing) || end < 0 || end > ENDED) {
            return BAD;
        }
        if (!Orders.takes(set) || !now.allLive(set)) {
            return BAD;
        }
        rows.gather(set);
        int found = 0;
        for (int code = 0; code < rows.total; code++) {
            rows.lay(code);
            trial.takeFrom(now);
            trial.deaths(rows.row, rows.n);
            if (trial.holder[thing] == end) {
                found++;
            }
        }
        return found;
    }

    public int explained(int set) {
        if (!Orders.takes(set)) {
            return BAD;
        }
        if (!imaged) {
            return NONE;
        }
        if (!kept.allLive(set)) {
            return BAD;
        }
        rows.gather(set);
        int found = 0;
        for (int code = 0; code < rows.total; code++) {
            rows.lay(code);
            trial.takeFrom(kept);
            trial.deaths(rows.row, rows.n);
            if (trial.hasThingsOf(now)) {
                found++;
            }
        }
        return found;
    }

    public int lots(int n) {
        if (n < 1 || n > MOST_LOTS) {
            return BAD;
        }
        int sum = 0;
        for (int i = 0; i < n; i++) {
            sum += now.lot();
        }
        return sum;
    }

    public int seed(int v) {
        if (v < 0) {
            return BAD;
        }
        int was = now.draw;
        now.draw = v;
        return was;
    }

    public int image() {
        kept.takeFrom(now);
        imaged = true;
        return 1;
    }

    public int restore() {
        if (!imaged) {
            return NONE;
        }
        now.takeFrom(kept);
        return 1;
    }

    // ---- 4 sheets

    public int judged(int sheet, int lane, int from, int n) {
        if (n < 1 || n > LONGEST_ROW) {
            return BAD;
        }
        int found = sheets.look(sheet, lane, from, n);
        if (found != FINE) {
            return found;
        }
        suit.tell(sheets, sheet, from, n);
        int first = suit.firstWhoCannotDie(now.living);
        return first < n ? first : NONE;
    }

    public int wed(int thing, int house, int sheet, int lane, int from, int n, int i) {
        if (!now.isThing(thing) || house < 0 || house >= MOST) {
            return BAD;
        }
        if (n < 1 || n > LONGEST_ROW || i < -1 || i >= Suit.NAMES) {
            return BAD;
        }
        int found = sheets.look(sheet, lane, from, n);
        if (found != FINE) {
            return found;
        }
        suit.tell(sheets, sheet, from, n);
        if (suit.firstWhoCannotDie(now.living) < n) {
            return NOT;
        }
        int marriages = suit.fewest(now, thing, house);
        if (marriages < 0 || i < 0) {
            return marriages;
        }
        return i < 2 * marriages ? suit.wedded[i] : NONE;
    }

    public int film(int sheet, int lane, int from) {
        int found = sheets.look(sheet, lane, from, now.things);
        if (found != FINE) {
            return found;
        }
        for (int t = 0; t < now.things; t++) {
            sheets.put(sheet, from + t, now.holder[t]);
        }
        return now.things;
    }

    public int sheet(int sheet, int lane, int n) {
        if (!Sheets.isSheet(sheet) || !Sheets.isLane(lane) || n > Sheets.LONGEST) {
            return BAD;
        }
        if (n < 0) {
            return SIZE;
        }
        sheets.renew(sheet, lane, n);
        return n;
    }

    public int drop(int sheet) {
        if (!Sheets.isSheet(sheet)) {
            return BAD;
        }
        if (!sheets.holds(sheet)) {
            return NULL;
        }
        sheets.lanes[sheet] = Sheets.NOTHING;
        return sheets.sizes[sheet];
    }

    public int item(int sheet, int lane, int i, int v) {
        int found = sheets.look(sheet, lane, i, 1);
        if (found != FINE) {
            return found;
        }
        sheets.put(sheet, i, v);
        return 1;
    }

    public int copy(int from, int i, int to, int j, int n) {
        if (!Sheets.isSheet(from) || !Sheets.isSheet(to)) {
            return BAD;
        }
        if (!sheets.holds(from) || !sheets.holds(to)) {
            return NULL;
        }
        if (sheets.lanes[from] != sheets.lanes[to]) {
            return CAST;
        }
        if (!sheets.spans(from, i, n) || !sheets.spans(to, j, n)) {
            return INDEX;
        }
        sheets.move(from, i, to, j, n);
        return n;
    }

    private static boolean has(int set, int member) {
        return (set >> member & 1) == 1;
    }

    private static boolean isKind(int kind) {
        return kind >= LAND && kind < KINDS;
    }

    private static boolean hasOtherSide(int kind) {
        return kind == DEBT || kind == QUARREL;
    }

    /** Whether n unlike relations stand in the lowest digits of 8, and nothing above them. */
    private static boolean isRow(int row, int n) {
        if (row < 0 || row >> 3 * n != 0) {
            return false;
        }
        int seen = 0;
        for (int i = 0; i < n; i++) {
            int relation = row >> 3 * i & 7;
            if (relation > GODCHILD || has(seen, relation)) {
                return false;
            }
            seen |= 1 << relation;
        }
        return true;
    }

    /** All that an image keeps: people, things, rules and the draw. */
    private static final class Estate {
        int people;
        /** A set, so that kin who are dead fall out of a set of kin at one stroke. */
        int living;
        final int[] sex;
        /** Always of a lesser number and a man, so that a walk from father to father ends. */
        final int[] father;
        final int[] mother;
        final int[] spouse;
        final int[] godchild;
        int things;
        final int[] kind;
        final int[] worth;
        final int[] holder;
        final int[] other;
        /** Digits of 8, the first one lowest; a row's length stands apart, as SON is the digit 0. */
        final int[] ruleRow;
        final int[] ruleLength;
        int draw;

        Estate() {
            people = 0;
            living = 0;
            sex = new int[MOST];
            father = new int[MOST];
            mother = new int[MOST];
            spouse = new int[MOST];
            godchild = new int[MOST];
            things = 0;
            kind = new int[MOST];
            worth = new int[MOST];
            holder = new int[MOST];
            other = new int[MOST];
            ruleRow = new int[KINDS];
            ruleLength = new int[KINDS];
            ruleRow[LAND] = SON;
            ruleRow[DEBT] = DAUGHTER;
            ruleRow[QUARREL] = COUSIN;
            ruleRow[JOKE] = GODCHILD;
            for (int k = 0; k < KINDS; k++) {
                ruleLength[k] = 1;
            }
            draw = 1;
        }

        void takeFrom(Estate from) {
            people = from.people;
            living = from.living;
            System.arraycopy(from.sex, 0, sex, 0, MOST);
            System.arraycopy(from.father, 0, father, 0, MOST);
            System.arraycopy(from.mother, 0, mother, 0, MOST);
            System.arraycopy(from.spouse, 0, spouse, 0, MOST);
            System.arraycopy(from.godchild, 0, godchild, 0, MOST);
            things = from.things;
            System.arraycopy(from.kind, 0, kind, 0, MOST);
            System.arraycopy(from.worth, 0, worth, 0, MOST);
            System.arraycopy(from.holder, 0, holder, 0, MOST);
            System.arraycopy(from.other, 0, other, 0, MOST);
            System.arraycopy(from.ruleRow, 0, ruleRow, 0, KINDS);
            System.arraycopy(from.ruleLength, 0, ruleLength, 0, KINDS);
            draw = from.draw;
        }

        /** Nobody and nothing is left; rules and the draw stay. */
        void clear() {
            people = 0;
            living = 0;
            things = 0;
        }

        boolean known(int p) {
            return p >= 0 && p < people;
        }

        boolean lives(int p) {
            return known(p) && has(living, p);
        }

        boolean isOf(int p, int which) {
            return known(p) && sex[p] == which;
        }

        boolean isThing(int t) {
            return t >= 0 && t < things;
        }

        boolean allLive(int set) {
            return (set & ~living) == 0;
        }

        int addPerson(int itsSex, int itsFather, int itsMother) {
            int p = people;
            if (p >= MOST) {
                return FULL;
            }
            sex[p] = itsSex;
            father[p] = itsFather;
            mother[p] = itsMother;
            spouse[p] = NOBODY;
            godchild[p] = NOBODY;
            living |= 1 << p;
            people = p + 1;
            return p;
        }

        int addThing(int itsKind, int itsWorth, int itsHolder, int itsOther) {
            int t = things;
            if (t >= MOST) {
                return FULL;
            }
            kind[t] = itsKind;
            worth[t] = itsWorth;
            holder[t] = itsHolder;
            other[t] = itsOther;
            things = t + 1;
            return t;
        }

        void setRule(int k, int row, int n) {
            ruleRow[k] = row;
            ruleLength[k] = n;
        }

        boolean canMarry(int man, int woman) {
            if (!isOf(man, MAN) || !isOf(woman, WOMAN) || !lives(man) || !lives(woman)) {
                return false;
            }
            if (spouse[man] != NOBODY || spouse[woman] != NOBODY) {
                return false;
            }
            if (father[man] != NOBODY && father[man] == father[woman]) {
                return false;
            }
            if (mother[man] != NOBODY && mother[man] == mother[woman]) {
                return false;
            }
            return father[woman] != man && mother[man] != woman;
        }

        /** A marriage, if it can be. */
        boolean join(int man, int woman) {
            if (!canMarry(man, woman)) {
                return false;
            }
            spouse[man] = woman;
            spouse[woman] = man;
            return true;
        }

        int houseOf(int p) {
            int head = p;
            if (sex[p] == WOMAN && known(spouse[p])) {
                head = spouse[p];
            }
            for (int i = 0; i < MOST && known(father[head]); i++) {
                head = father[head];
            }
            return head;
        }

        /** Whether a thing is held by one of a house; what has lapsed or ended is in none. */
        boolean isIn(int t, int house) {
            return known(holder[t]) && houseOf(holder[t]) == house;
        }

        /** Dead ones too; nobody's number is no member of any set, so those without a parent fall out. */
        int childrenOf(int parents) {
            int found = 0;
            for (int q = 0; q < people; q++) {
                if (has(parents, father[q]) || has(parents, mother[q])) {
                    found |= 1 << q;
                }
            }
            return found;
        }

        /** Dead ones too. */
        int siblingsOf(int p) {
            if (!known(p)) {
                return 0;
            }
            int found = 0;
            for (int q = 0; q < people; q++) {
                boolean sameFather = father[p] != NOBODY && father[q] == father[p];
                boolean sameMother = mother[p] != NOBODY && mother[q] == mother[p];
                if (q != p && (sameFather || sameMother)) {
                    found |= 1 << q;
                }
            }
            return found;
        }

        int ofSex(int set, int which) {
            int found = 0;
            for (int q = 0; q < people; q++) {
                if (has(set, q) && sex[q] == which) {
                    found |= 1 << q;
                }
            }
            return found;
        }

        /** The living ones of a relation to p, as a set. */
        int related(int p, int relation) {
            int found = 0;
            switch (relation) {
                case SON:
                    found = ofSex(childrenOf(1 << p), MAN);
                    break;
                case DAUGHTER:
                    found = ofSex(childrenOf(1 << p), WOMAN);
                    break;
                case SIBLING:
                    found = siblingsOf(p);
                    break;
                case COUSIN:
                    found = childrenOf(siblingsOf(father[p]) | siblingsOf(mother[p])) & ~siblingsOf(p) & ~(1 << p);
                    break;
                case SPOUSE:
                    found = 1 << spouse[p];
                    break;
                case GODCHILD:
                    found = 1 << godchild[p];
                    break;
                default:
                    break;
            }
            return found & living;
        }

        int heirBy(int p, int k) {
            for (int i = 0; i < ruleLength[k]; i++) {
                int found = related(p, ruleRow[k] >> 3 * i & 7);
                if (found != 0) {
                    return member(found, 0);
                }
            }
            return NOBODY;
        }

        /** The i-th of a set by numbers, from 0 on. */
        int member(int set, int i) {
            int left = i;
            for (int p = 0; p < MOST; p++) {
                if (has(set, p)) {
                    if (left == 0) {
                        return p;
                    }
                    left--;
                }
            }
            return NOBODY;
        }

        int heldBy(int whom) {
            int found = 0;
            for (int t = 0; t < things; t++) {
                if (holder[t] == whom) {
                    found++;
                }
            }
            return found;
        }

        int worthOfLands() {
            int sum = 0;
            for (int t = 0; t < things; t++) {
                if (kind[t] == LAND && known(holder[t])) {
                    sum += worth[t];
                }
            }
            return sum;
        }

        int owedTo(int p) {
            int sum = 0;
            for (int t = 0; t < things; t++) {
                if (kind[t] == DEBT && other[t] == p) {
                    sum += worth[t];
                }
                if (kind[t] == DEBT && holder[t] == p) {
                    sum -= worth[t];
                }
            }
            return sum;
        }

        /**
         * What a death does to one thing. Things do not touch one another and nobody is both sides of one that is held,
         * so each can go through all steps of a death by itself; the dead one's marriage must still stand.
         */
        void pass(int t, int dead) {
            if (holder[t] == dead) {
                holder[t] = heirBy(dead, kind[t]);
            } else if (other[t] == dead) {
                other[t] = heirBy(dead, kind[t] == DEBT ? LAND : QUARREL);
                if (other[t] == NOBODY) {
                    holder[t] = LAPSED;
                }
            }
            if (holder[t] == LAPSED) {
                other[t] = NOBODY;
            } else if (holder[t] == other[t]) {
                holder[t] = ENDED;
                other[t] = NOBODY;
            }
        }

        /** The dead one's own spouse is told still. */
        void bury(int dead) {
            living &= ~(1 << dead);
            int left = spouse[dead];
            if (known(left)) {
                spouse[left] = NOBODY;
            }
        }

        void death(int dead) {
            if (!lives(dead)) {
                return;
            }
            for (int t = 0; t < things; t++) {
                pass(t, dead);
            }
            bury(dead);
        }

        void deaths(int[] row, int n) {
            for (int i = 0; i < n && i < row.length; i++) {
                death(row[i]);
            }
        }

        boolean hasThingsOf(Estate that) {
            if (things != that.things) {
                return false;
            }
            for (int t = 0; t < things; t++) {
                if (kind[t] != that.kind[t] || worth[t] != that.worth[t]) {
                    return false;
                }
                if (holder[t] != that.holder[t] || other[t] != that.other[t]) {
                    return false;
                }
            }
            return true;
        }

        /** The draw goes on; wrapping at 32 bits leaves the lowest 31 as they should be. */
        int drawn(int among) {
            draw = draw * 1103515245 + 12345 & 2147483647;
            return among > 0 ? draw / 65536 % among : 0;
        }

        int wives() {
            int found = 0;
            for (int p = 0; p < people; p++) {
                if (sex[p] == WOMAN && has(living, p) && spouse[p] != NOBODY) {
                    found |= 1 << p;
                }
            }
            return found;
        }

        /** One lot: 1 for a death, 100 for a birth, 0 if nothing comes of it. */
        int lot() {
            if (drawn(3) == 0) {
                if (living == 0) {
                    return 0;
                }
                death(member(living, drawn(Integer.bitCount(living))));
                return 1;
            }
            int wives = wives();
            if (people >= MOST || wives == 0) {
                return 0;
            }
            int bearing = member(wives, drawn(Integer.bitCount(wives)));
            if (!known(bearing)) {
                return 0;
            }
            addPerson(drawn(2), spouse[bearing], bearing);
            return 100;
        }
    }

    /** The tape and the reading of it. */
    private static final class Tape {
        private static final int LONGEST = 120;
        private static final int FIRST_FAULT = -20;
        private static final int MOST_BYTES = 8;
        private static final int END = 0;

        final int[] bytes;
        int length;
        /** What stands here is read next; where reading stops, this is the fault's place. */
        int place;

        Tape() {
            bytes = new int[LONGEST];
            length = 0;
            place = 0;
        }

        int put(long w, int n) {
            if (n < 1 || n > MOST_BYTES) {
                return BAD;
            }
            for (int i = 0; i < n; i++) {
                if (byteOf(w, i) < 32 || byteOf(w, i) > 126) {
                    return BAD;
                }
            }
            if (length > LONGEST - n) {
                return FULL;
            }
            for (int i = n - 1; i >= 0; i--) {
                bytes[length] = byteOf(w, i);
                length++;
            }
            return length;
        }

        int byteOf(long w, int i) {
            return (int) (w >> 8 * i & 255);
        }

        void open() {
            place = 0;
            passBlanks();
        }

        /** A blank is never what can't stand there, but it is a byte: places behind it count it, and so does the end. */
        void passBlanks() {
            for (int i = place; i < length && next() == ' '; i++) {
                place++;
            }
        }

        void step() {
            place++;
            passBlanks();
        }

        void empty() {
            length = 0;
        }

        int next() {
            return place >= 0 && place < length ? bytes[place] : END;
        }

        boolean skip(int sign) {
            if (next() != sign) {
                return false;
            }
            step();
            return true;
        }

        int fault() {
            return FIRST_FAULT - place;
        }

        /** How many people are told, or the fault. */
        int readPeople(Estate into) {
            for (int n = 1; n <= MOST; n++) {
                if (!readPerson(into)) {
                    return fault();
                }
                if (next() == END) {
                    return n;
                }
                if (n == MOST || !skip(',')) {
                    return fault();
                }
            }
            return fault();
        }

        boolean readPerson(Estate into) {
            int sex = MAN;
            if (next() == 'w') {
                sex = WOMAN;
            } else if (next() != 'm') {
                return false;
            }
            step();
            int p = into.addPerson(sex, NOBODY, NOBODY);
            return into.known(p) && readFather(into, p) && readMother(into, p) && readSpouse(into, p);
        }

        boolean readFather(Estate into, int p) {
            if (!skip('f')) {
                return true;
            }
            int named = next() - 'a';
            if (named >= p || !into.isOf(named, MAN)) {
                return false;
            }
            into.father[p] = named;
            step();
            return true;
        }

        boolean readMother(Estate into, int p) {
            if (!skip('o')) {
                return true;
            }
            int named = next() - 'a';
            if (named >= p || !into.isOf(named, WOMAN)) {
                return false;
            }
            into.mother[p] = named;
            step();
            return true;
        }

        /** A family's couples need not be such as could marry: only sex and being free count. */
        boolean readSpouse(Estate into, int p) {
            if (!skip('s')) {
                return true;
            }
            int named = next() - 'a';
            int sought = into.sex[p] == MAN ? WOMAN : MAN;
            if (named >= p || !into.isOf(named, sought) || into.spouse[named] != NOBODY) {
                return false;
            }
            into.spouse[p] = named;
            into.spouse[named] = p;
            step();
            return true;
        }

        /** How many rules are told, or the fault. */
        int readRules(Estate into) {
            int seen = 0;
            for (int n = 1; n <= KINDS; n++) {
                int kind = kindOf(next());
                if (!isKind(kind) || has(seen, kind)) {
                    return fault();
                }
                seen |= 1 << kind;
                step();
                if (!skip(':') || !readRow(into, kind)) {
                    return fault();
                }
                if (next() == END) {
                    return n;
                }
                if (n == KINDS || !skip(';')) {
                    return fault();
                }
            }
            return fault();
        }

        int kindOf(int sign) {
            switch (sign) {
                case 'l': return LAND;
                case 'd': return DEBT;
                case 'q': return QUARREL;
                case 'j': return JOKE;
                default: return KINDS;
            }
        }

        /** Reads digits while they can stand; what can't is left for the reader of what comes behind a row. */
        boolean readRow(Estate into, int kind) {
            int row = 0;
            int n = 0;
            for (int i = 0; i < LONGEST_RULE; i++) {
                int digit = next() - '0';
                if (digit < SON || digit > GODCHILD || !isRow(row | digit << 3 * i, i + 1)) {
                    break;
                }
                row |= digit << 3 * i;
                n++;
                step();
            }
            if (n == 0) {
                return false;
            }
            into.setRule(kind, row, n);
            return true;
        }
    }

    /** All rows in which a set of people can die. */
    private static final class Orders {
        final int[] members;
        final int[] left;
        final int[] row;
        int n;
        int total;

        Orders() {
            members = new int[MOST_ORDERED];
            left = new int[MOST_ORDERED];
            row = new int[MOST_ORDERED];
            n = 0;
            total = 1;
        }

        static boolean takes(int set) {
            return set >= 0 && set <= ALL && Integer.bitCount(set) <= MOST_ORDERED;
        }

        void gather(int set) {
            n = 0;
            total = 1;
            for (int p = 0; p < MOST; p++) {
                if (has(set, p) && n < MOST_ORDERED) {
                    members[n] = p;
                    n++;
                    total *= n;
                }
            }
        }

        /** Each code below the total tells another row: its remainders say which of those who are left comes next. */
        void lay(int code) {
            System.arraycopy(members, 0, left, 0, MOST_ORDERED);
            int rest = code;
            for (int i = 0; i < n; i++) {
                int choices = n - i;
                int chosen = rest % choices;
                rest /= choices;
                row[i] = left[chosen];
                for (int j = chosen + 1; j < choices; j++) {
                    left[j - 1] = left[j];
                }
            }
        }
    }

    /** A told row of deaths, and the marriages ahead of it that bring a thing into a house. */
    private static final class Suit {
        static final int NAMES = 4;
        /** A pair is a man's number times MOST and a woman's: by its number the first as man and woman. */
        private static final int PAIRS = MOST * MOST;
        private static final int NO_PAIR = -1;

        final Estate then;
        final int[] dead;
        int n;
        final int[] wedded;

        Suit() {
            then = new Estate();
            dead = new int[LONGEST_ROW];
            n = 0;
            wedded = new int[NAMES];
        }

        void tell(Sheets from, int sheet, int at, int many) {
            n = 0;
            for (int i = 0; i < many && i < LONGEST_ROW; i++) {
                dead[i] = from.get(sheet, at + i);
                n++;
            }
        }

        /** The place of the first who does not live when the turn comes; how many there are, if all do. */
        int firstWhoCannotDie(int living) {
            int left = living;
            for (int i = 0; i < n; i++) {
                if (dead[i] < 0 || dead[i] >= MOST || !has(left, dead[i])) {
                    return i;
                }
                left &= ~(1 << dead[i]);
            }
            return n;
        }

        /** The fewest marriages, which wedded names then; NOT, if two are too few. */
        int fewest(Estate now, int thing, int house) {
            if (brings(now, NO_PAIR, NO_PAIR, thing, house)) {
                return 0;
            }
            for (int first = 0; first < PAIRS; first++) {
                if (isPair(now, first) && brings(now, first, NO_PAIR, thing, house)) {
                    return 1;
                }
            }
            for (int first = 0; first < PAIRS; first++) {
                if (!isPair(now, first)) {
                    continue;
                }
                for (int second = 0; second < PAIRS; second++) {
                    // whom a marriage leaves free could marry before it, too: most pairs fall out here
                    if (isPair(now, second) && brings(now, first, second, thing, house)) {
                        return 2;
                    }
                }
            }
            return NOT;
        }

        boolean isPair(Estate now, int pair) {
            return now.canMarry(pair / MOST, pair % MOST);
        }

        /** Whether a thing is in a house behind these marriages and the row. */
        boolean brings(Estate now, int first, int second, int thing, int house) {
            then.takeFrom(now);
            if (!weds(first, 0) || !weds(second, 2)) {
                return false;
            }
            for (int i = 0; i < n; i++) {
                then.pass(thing, dead[i]);
                then.bury(dead[i]);
            }
            return then.isIn(thing, house);
        }

        boolean weds(int pair, int at) {
            if (pair == NO_PAIR) {
                return true;
            }
            wedded[at] = pair / MOST;
            wedded[at + 1] = pair % MOST;
            return then.join(wedded[at], wedded[at + 1]);
        }
    }

    /** The sheets' items stand in one row, each sheet's at its own stretch of it. */
    private static final class Sheets {
        static final int LONGEST = 24;
        static final int NOTHING = -1;
        private static final int SHEETS = 4;
        private static final int BYTES = 0;
        private static final int SHORTS = 1;
        private static final int INTS = 2;

        final int[] lanes;
        final int[] sizes;
        final int[] items;

        Sheets() {
            lanes = new int[SHEETS];
            sizes = new int[SHEETS];
            items = new int[SHEETS * LONGEST];
            for (int s = 0; s < SHEETS; s++) {
                lanes[s] = NOTHING;
            }
        }

        static boolean isSheet(int sheet) {
            return sheet >= 0 && sheet < SHEETS;
        }

        static boolean isLane(int lane) {
            return lane >= BYTES && lane <= INTS;
        }

        boolean holds(int sheet) {
            return lanes[sheet] != NOTHING;
        }

        /** Written so that no number, however great, wraps around. */
        boolean spans(int sheet, int from, int n) {
            return n >= 0 && from >= 0 && from <= sizes[sheet] - n;
        }

        /** FINE, or why n items of a sheet, taken as a row of a lane, can't be reached. */
        int look(int sheet, int lane, int from, int n) {
            if (!isSheet(sheet) || !isLane(lane)) {
                return BAD;
            }
            if (!holds(sheet)) {
                return NULL;
            }
            if (lanes[sheet] != lane) {
                return CAST;
            }
            return spans(sheet, from, n) ? FINE : INDEX;
        }

        void renew(int sheet, int lane, int n) {
            lanes[sheet] = lane;
            sizes[sheet] = n;
            for (int i = 0; i < LONGEST; i++) {
                items[sheet * LONGEST + i] = 0;
            }
        }

        int get(int sheet, int i) {
            return items[sheet * LONGEST + i];
        }

        void put(int sheet, int i, int v) {
            int kept = v;
            if (lanes[sheet] == BYTES) {
                kept = (byte) v;
            } else if (lanes[sheet] == SHORTS) {
                kept = (short) v;
            }
            items[sheet * LONGEST + i] = kept;
        }

        void move(int from, int i, int to, int j, int n) {
            System.arraycopy(items, from * LONGEST + i, items, to * LONGEST + j, n);
        }
    }
}
