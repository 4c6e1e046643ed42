/** The edges that the document names of orders and images: promises 20, 21, 24, 25, a run for each of its sentences. */
public final class OrdersBoundsTest {
    private static final Script script = new Script();

    public static void main(String[] args) {
        ordersRefused();
        ordersOfFew();
        ordersOfFive();
        ordersChangeNothing();
        explainedRefused();
        explained();
        explainedThings();
        restore();
        imageKeepsAll();
        imageStandsApart();
        script.end();
    }

    private static void ordersRefused() {
        script.run("20 BAD: a THING that is not", """
            text "m,w"
            family() = 2
            orders({}|{0}, 0, 0|12|13) = BAD
            thing(0, 1, 0, 12) = 0
            orders({}|{0}, -1|1|11|12|MAX|MIN, 0|12|13) = BAD
            orders({0}, 0, 12) = 1
            """);
        script.run("20 'HELD by one (0 .. 11), has LAPSED (12), has ENDED (13)': BAD below and above", """
            text "m,w"
            family() = 2
            thing(0, 1, 0, 12) = 0
            orders({}|{0}, 0, -1|14|15|MAX|MIN) = BAD
            orders({0}, 0, 0|1|2|11|13) = 0     # nobody's number is fine
            orders({0}, 0, 12) = 1
            orders({}, 0, 0) = 1
            """);
        script.run("20 'BAD: also one who is dead'", """
            text "m,w,m"
            family() = 3
            thing(0, 1, 0, 12) = 0
            dies(1) = 0
            orders({1}|{0 1}|{1 2}|{0 1 2}, 0, 0|12) = BAD
            orders({0 2}, 0, 12) = 2
            """);
        script.run("20 BAD: one whom the set names is not there", """
            text "m,w,m"
            family() = 3
            thing(0, 1, 0, 12) = 0
            orders({3}|{0 3}|{11}|{12}|{0 12}|{13}|{31}|{0 30}, 0, 0) = BAD
            orders(-1|MIN|MAX|4095|4096|-2147483647, 0, 0) = BAD
            """);
        script.run("20 'BAD: also more than 5'", """
            text "m,m,m,m,m,m,m,m,m,m,m,m"
            family() = 12
            thing(0, 1, 0, 12) = 0
            orders({0 1 2 3 4 5}|{1 2 3 4 5 6}|{6 7 8 9 10 11}|{0 1 2 3 4 5 6}|4095, 0, 0|12) = BAD
            orders({7 8 9 10 11}, 0, 0) = 120
            orders({0 8 9 10 11}, 0, 12) = 120
            """);
    }

    private static void ordersOfFew() {
        script.run("20 a set of nobody: one row", """
            text "m,wfa"
            family() = 2
            thing(1, 1, 0, 1) = 0
            thing(3, 1, 0, 12) = 1
            orders({}, 0|1, 0) = 1
            orders({}, 0|1, 1|2|11|12|13) = 0
            dies(0) = 2
            orders({}, 0, 13) = 1               # it has ENDED already
            orders({}, 1, 12) = 1
            orders({1}, 0, 13) = 1
            orders({1}, 1, 12) = 1
            """);
        script.run("20 a set of one, the last of twelve", """
            text "m,m,m,m,m,m,m,m,m,m,m,mfa"
            family() = 12
            thing(0, 1, 0, 12) = 0
            thing(0, 1, 11, 12) = 1
            orders({0}, 0, 11) = 1
            orders({11}, 1, 12) = 1
            orders({0 11}, 0, 12) = 2
            orders({11}, 0, 0) = 1
            """);
        script.run("20 the twelfth THING", """
            text "m,mfa"
            family() = 2
            thing(0, 1, 1, 12) = 0
            thing(0, 1, 1, 12) = 1
            thing(0, 1, 1, 12) = 2
            thing(0, 1, 1, 12) = 3
            thing(0, 1, 1, 12) = 4
            thing(0, 1, 1, 12) = 5
            thing(0, 1, 1, 12) = 6
            thing(0, 1, 1, 12) = 7
            thing(0, 1, 1, 12) = 8
            thing(0, 1, 1, 12) = 9
            thing(0, 1, 1, 12) = 10
            thing(0, 1, 0, 12) = 11
            orders({0}, 11, 1) = 1
            orders({0}, 12, 1) = BAD
            """);
        script.run("20 'all rows in which they can die, each once'", """
            text "m,mfa,wfa,mfa"
            family() = 4
            thing(0, 1, 0, 12) = 0
            orders({0 1}, 0, 3) = 1             # 1 ahead of 0
            orders({0 1}, 0, 12) = 1            # 0 ahead of 1, who has no son
            orders({0 1 3}, 0, 12) = 6
            orders({0 1 2}, 0, 3|12) = 3
            orders({0 2}, 0, 1) = 2
            rule(0, 17, 3) = 0                  # 1 2 0: DAUGHTER, SIBLING, SON
            orders({0 2}, 0, 1) = 2             # from 2 to the first sibling, or to the first son
            orders({0 1 2}, 0, 3) = 6
            orders({0 2 3}, 0, 1) = 6
            orders({0 1 2 3}, 0, 12) = 24
            """);
    }

    private static void ordersOfFive() {
        script.run("20 five: 120 rows, over all ends", """
            text "m,mfa,mfb,mfa,mfd,m"
            family() = 6
            thing(0, 1, 0, 12) = 0
            thing(1, 1, 5, 0) = 1
            orders({0 1 2 3 4}, 0, 12) = 120
            orders({0 1 3 4 5}, 0, 0|1|3|4|5|13) = 0
            orders({0 1 3 4 5}, 0, 2) = 60      # 0 ahead of 1: then 2 has it for good
            orders({0 1 3 4 5}, 0, 12) = 60     # 1 ahead of 0: to 3 and 4, or to nobody
            orders({0 1 2 3 5}, 0, 4) = 20      # 1, 0, 3 in this order
            orders({0 1 2 3 5}, 0, 12) = 100
            """);
        script.run("20 a spouse is free for the next only behind the death", """
            text "m,wsa,m"
            family() = 3
            rule(0, 4, 1) = 0
            thing(0, 1, 0, 12) = 0
            orders({0}, 0, 1) = 1
            orders({0 1}, 0, 12) = 2
            orders({1}, 0, 0) = 1
            """);
    }

    private static void ordersChangeNothing() {
        script.run("20 nothing is changed", """
            text "m,wsa,mfaob"
            family() = 3
            thing(0, 1, 0, 12) = 0
            thing(1, 1, 0, 2) = 1
            image() = 1
            orders({0 1 2}, 0, 12) = 6
            count(1) = 3
            count(3) = 2
            told(0, 4) = 1
            told(1, 4) = 0
            of(0|1, 2) = 0
            of(1, 3) = 2
            explained({}) = 1
            seed(5) = 1
            """);
    }

    private static void explainedRefused() {
        script.run("21 'a set (0 .. 4095)': BAD below and above, ahead of NONE", """
            explained(-1|4096|4097|8191|MAX|MIN) = BAD
            explained(0) = NONE
            image() = 1
            explained(-1|4096|4097|8191|MAX|MIN) = BAD
            explained(0) = 1
            """);
        script.run("21 'BAD: also more than 5', ahead of NONE", """
            explained({0 1 2 3 4 5}|{6 7 8 9 10 11}|4095|{1 3 5 7 9 11}) = BAD
            explained({0 1 2 3 4}) = NONE
            text "m,m,m,m,m,m,m,m,m,m,m,m"
            family() = 12
            image() = 1
            explained({0 1 2 3 4 5}|{6 7 8 9 10 11}|4095|{1 3 5 7 9 11}) = BAD
            explained({0 1 2 3 4}|{7 8 9 10 11}) = 120
            """);
        script.run("21 'NONE: there is no IMAGE', ahead of who does not live", """
            explained({0}|{11}) = NONE
            text "m,m"
            family() = 2
            dies(1) = 0
            explained({}|{0}|{1}|{11}) = NONE
            """);
        script.run("21 'then BAD: one who does not live in it'", """
            text "m,m"
            family() = 2
            dies(0) = 0
            image() = 1
            explained({0}|{0 1}|{2}|{1 2}|{11}) = BAD
            explained({1}) = 1
            person(0, 12, 12) = 2
            explained({2}) = BAD                # lives now, was not in it
            dies(1) = 0
            explained({1}) = 1                  # is dead now, lives in it
            text "m"
            family() = 1
            explained({0}) = BAD
            explained({1}) = 1
            """);
    }

    private static void explained() {
        script.run("21 'in how many such rows': all, none, of nobody", """
            text "m,mfa,mfa"
            family() = 3
            thing(0, 1, 0, 12) = 0
            image() = 1
            explained({}) = 1
            explained({1}) = 1
            explained({1 2}) = 2
            explained({0}) = 0
            explained({0 1 2}) = 0
            dies(0|1) = 1
            dies(2) = 0
            explained({}) = 0
            explained({0 1 2}) = 6
            """);
        script.run("21 'by its RULES'", """
            text "m,wfa,mfa"
            family() = 3
            thing(0, 1, 0, 12) = 0
            rule(0, 1, 1) = 0
            image() = 1
            rule(0, 0, 1) = 1
            dies(0) = 1
            of(0, 2) = 2
            explained({0}) = 0
            restore() = 1
            dies(0) = 1
            of(0, 2) = 1
            rule(0, 0, 1) = 1
            explained({0}) = 1
            """);
        script.run("21 only THINGS count, not who lives now, not who was born", """
            text "m,m"
            family() = 2
            thing(0, 1, 0, 12) = 0
            image() = 1
            dies(1) = 0
            person(0, 12, 12) = 2
            rule(3, 1, 1) = 5
            seed(9) = 1
            explained({}|{1}) = 1
            """);
    }

    private static void explainedThings() {
        script.run("21 'KINDS, WORTHS too', how many, HOLDER, OTHER", """
            text "m,m,m"
            family() = 3
            thing(1, 5, 0, 1) = 0
            image() = 1
            explained({2}) = 1
            thing(0, 5, 0, 12) = 1
            explained({2}) = 0                  # one more
            text "m,m,m"
            family() = 3
            explained({2}) = 0                  # one less
            thing(2, 5, 0, 1) = 0
            explained({2}) = 0                  # another KIND
            text "m,m,m"
            family() = 3
            thing(1, 6, 0, 1) = 0
            explained({2}) = 0                  # another WORTH
            text "m,m,m"
            family() = 3
            thing(1, 5, 2, 1) = 0
            explained({2}) = 0                  # another HOLDER
            text "m,m,m"
            family() = 3
            thing(1, 5, 0, 2) = 0
            explained({2}) = 0                  # another OTHER
            text "m,m,m"
            family() = 3
            thing(1, 5, 0, 1) = 0
            explained({2}) = 1
            """);
        script.run("21 'LAPSED or ENDED alike'", """
            text "m,wfa"
            family() = 2
            thing(1, 5, 0, 1) = 0
            image() = 1
            dies(0) = 1
            explained({0}) = 1
            explained({0 1}) = 1                # ENDED by 0 ahead of 1, else LAPSED
            explained({1}) = 0
            restore() = 1
            dies(1) = 0
            explained({1}) = 1
            explained({0 1}) = 1
            explained({0}) = 0
            """);
        script.run("21 the last of twelve THINGS", """
            text "m,mfa,w"
            family() = 3
            thing(0, 1, 2, 12) = 0
            thing(0, 1, 2, 12) = 1
            thing(0, 1, 2, 12) = 2
            thing(0, 1, 2, 12) = 3
            thing(0, 1, 2, 12) = 4
            thing(0, 1, 2, 12) = 5
            thing(0, 1, 2, 12) = 6
            thing(0, 1, 2, 12) = 7
            thing(0, 1, 2, 12) = 8
            thing(0, 1, 2, 12) = 9
            thing(0, 1, 2, 12) = 10
            thing(1, 1, 2, 0) = 11
            image() = 1
            dies(0) = 0
            explained({0}) = 1
            explained({}) = 0
            """);
    }

    private static void restore() {
        script.run("25 'NONE: there is none'", """
            person(0, 12, 12) = 0
            restore() = NONE
            restore() = NONE
            count(0) = 1
            image() = 1
            restore() = 1
            restore() = 1
            count(0) = 1
            """);
        script.run("24 an IMAGE of nobody and nothing", """
            image() = 1
            text "m,w"
            family() = 2
            thing(0, 1, 0, 12) = 0
            restore() = 1
            count(0|1|2|3|4|5|6) = 0
            told(0, 0) = BAD
            """);
    }

    /** Each row of an image has its last place in use. */
    private static void imageKeepsAll() {
        script.run("24 'All is kept', of twelve PEOPLE and twelve THINGS", """
            text "m,w,m,m,m,m,m,m,m,m,m,wfaobsk"
            family() = 12
            god(11, 3) = 12
            god(0, 11) = 12
            thing(0, 1, 2, 12) = 0
            thing(0, 2, 2, 12) = 1
            thing(0, 3, 2, 12) = 2
            thing(0, 4, 2, 12) = 3
            thing(0, 5, 2, 12) = 4
            thing(0, 6, 2, 12) = 5
            thing(0, 7, 2, 12) = 6
            thing(0, 8, 2, 12) = 7
            thing(0, 9, 2, 12) = 8
            thing(0, 10, 2, 12) = 9
            thing(3, 11, 2, 12) = 10
            thing(2, 12, 11, 3) = 11
            rule(0, 8, 2) = 0
            rule(1, 1, 2) = 1
            rule(2, 10, 3) = 3
            rule(3, 5, 2) = 5                   # GODCHILD, SON
            seed(MAX) = 1
            dies(4) = 0
            image() = 1
            text "w,w,w,w,w,w,w,w,w,w,w,m"
            family() = 12
            thing(1, 1, 0, 1) = 0
            thing(1, 1, 0, 1) = 1
            thing(1, 1, 0, 1) = 2
            thing(1, 1, 0, 1) = 3
            thing(1, 1, 0, 1) = 4
            thing(1, 1, 0, 1) = 5
            thing(1, 1, 0, 1) = 6
            thing(1, 1, 0, 1) = 7
            thing(1, 1, 0, 1) = 8
            thing(1, 1, 0, 1) = 9
            thing(1, 1, 0, 1) = 10
            thing(1, 1, 0, 1) = 11
            god(11, 5) = 12
            text "l:5;d:5;q:5;j:4"
            rules() = 4
            seed(0) = 2147483647
            dies(5) = 0
            restore() = 1
            told(11, 0) = 1
            told(11, 1) = 1
            told(11, 2) = 0
            told(11, 3) = 1
            told(11, 4) = 10
            told(11, 5) = 3
            told(10, 4) = 11
            told(0, 5) = 11
            told(0, 0) = 0
            told(4, 1) = 0
            told(5, 1) = 1
            count(1) = 11
            count(6) = 55
            of(0, 0) = 0
            of(0, 1) = 1
            of(0, 2) = 2
            of(11, 0) = 2
            of(11, 1) = 12
            of(11, 2) = 11
            of(11, 3) = 3
            dies(3) = 0
            heir(11, 3) = NONE                  # the godchild is dead, and there is no son
            seed(1) = 2147483647
            rule(0, 0, 1) = 8
            rule(1, 1, 1) = 1
            rule(2, 3, 1) = 10
            rule(3, 5, 1) = 5
            """);
        script.run("24 the lengths of all RULES", """
            text "m,mfa,wfa"
            family() = 3
            text "l:50;d:50;q:50;j:50"          # GODCHILD, SON
            rules() = 4
            image() = 1
            text "l:5;d:5;q:5;j:5"
            rules() = 4
            heir(0, 0|1|2|3) = NONE
            restore() = 1
            heir(0, 0|1|2|3) = 1
            """);
    }

    private static void imageStandsApart() {
        script.run("24 'All but SHEETS, THE TAPE'", """
            sheet(0, 1, 7) = 7
            sheet(1, 1, 3) = 3
            text "m,"
            image() = 1
            drop(0) = 7
            sheet(1, 2, 5) = 5
            sheet(2, 0, 0) = 0
            text "w"
            restore() = 1
            drop(0) = NULL
            drop(1) = 5
            drop(2) = 0
            family() = 2
            """);
        script.run("25 'All is as it was then', as often as it is asked for", """
            text "m,mfa"
            family() = 2
            thing(0, 1, 0, 12) = 0
            image() = 1
            dies(0) = 1
            restore() = 1
            told(0, 1) = 1
            of(0, 2) = 0
            dies(0) = 1
            of(0, 2) = 1
            restore() = 1
            told(0, 1) = 1
            of(0, 2) = 0
            """);
        script.run("24 a later IMAGE stands in place of the first", """
            person(0, 12, 12) = 0
            image() = 1
            person(1, 12, 12) = 1
            image() = 1
            person(1, 12, 12) = 2
            restore() = 1
            count(0) = 2
            """);
        script.run("24 who comes behind a restore is new", """
            text "m,w"
            family() = 2
            image() = 1
            person(0, 12, 12) = 2
            god(2, 0) = 12
            person(1, 2, 1) = 3
            marry(2, 1) = 1
            thing(2, 50, 0, 2) = 0
            restore() = 1
            person(1, 12, 12) = 2
            told(2, 0|1) = 1
            told(2, 2|3|4|5) = 12
            told(1, 4) = 12
            kin(2, 0|1) = {}
            thing(0, 1, 0, 12) = 0
            of(0, 3) = 12
            """);
    }
}
