/** Promises 20 to 25: orders, explained, lots, seed, image, restore. */
public final class OrdersTest {
    private static final Script script = new Script();

    public static void main(String[] args) {
        orders();
        ordersRefused();
        allOrders();
        explained();
        explainedRefused();
        explainedWholly();
        lots();
        lotsOfTwo();
        seed();
        image();
        script.end();
    }

    private static void orders() {
        script.run("20 orders", """
            text "m,mfa,mfb,mfa"
            family() = 4
            thing(0, 1, 0, 12) = 0
            orders({}, 0, 0) = 1        # the one row of nobody
            orders({}, 0, 1) = 0
            orders({0}, 0, 1) = 1
            orders({0}, 0, 0) = 0
            orders({1}, 0, 0) = 1
            orders({0 1}, 0, 2) = 1     # 0 ahead of 1
            orders({0 1}, 0, 3) = 1     # 1 ahead of 0
            orders({0 1}, 0, 12) = 0
            orders({0 1 3}, 0, 2) = 3   # 0 1 3, 0 3 1, 3 0 1
            orders({0 1 3}, 0, 12) = 3  # 1 0 3, 1 3 0, 3 1 0
            orders({0 1 3}, 0, 13) = 0
            orders({0 1 2 3}, 0, 12) = 24
            orders({0 1}, 0, 11) = 0    # nobody is 11
            of(0, 2) = 0                # nothing has changed
            count(1) = 4
            told(0, 1) = 1
            """);
        script.run("20 in how many it ends", """
            text "m,mfa,wfa"
            family() = 3
            thing(1, 5, 0, 2) = 0
            orders({0}, 0, 13) = 1
            orders({0 2}, 0, 13) = 1    # 0 ahead of 2; else 2 has no son
            orders({0 2}, 0, 12) = 1
            orders({1 2}, 0, 12) = 2
            rule(0, 2, 1) = 0           # land to siblings: 1 is owed it behind 2
            orders({0 2}, 0, 13) = 1
            orders({0 2}, 0, 12) = 1    # then no daughter lives as 0 dies
            orders({2}, 0, 0) = 1
            rule(1, 0, 1) = 1
            orders({0 2}, 0, 13) = 2    # debts to sons: it comes to 1, who is owed it, either way
            """);
    }

    private static void ordersRefused() {
        script.run("20 bad", """
            orders({}, 0, 0) = BAD
            text "m,m,m,m,m,m,m"
            family() = 7
            thing(0, 1, 0, 12) = 0
            orders({0}, 1, 0) = BAD
            orders({0}, -1, 0) = BAD
            orders({0}, 0, 14) = BAD
            orders({0}, 0, -1) = BAD
            orders({0}, 0, 13) = 0
            orders({7}, 0, 0) = BAD     # nobody
            orders({12}, 0, 0) = BAD
            orders(-1, 0, 0) = BAD
            orders(MIN, 0, 0) = BAD
            orders(4096, 0, 0) = BAD
            orders({0 1 2 3 4 5}, 0, 12) = BAD
            orders({0 1 2 3 4}, 0, 12) = 120
            dies(3) = 0
            orders({3}, 0, 0) = BAD
            orders({0 3}, 0, 0) = BAD
            orders({0 1 2 4 5}, 0, 12) = 120
            """);
    }

    /** With five the answers for all ends make up all 120 rows, and a chain of sons is one row's alone. */
    private static void allOrders() {
        script.run("20 five", """
            text "m,mfa,mfb,mfc,mfd,mfe"
            family() = 6
            thing(0, 1, 0, 12) = 0
            thing(0, 1, 5, 12) = 1
            orders({0 1 2 3 4}, 0, 5) = 1
            orders({0 1 2 3 4}, 0, 12) = 119
            orders({0 1 2 3 4}, 1, 5) = 120
            orders({1 2 3 4 5}, 0, 0) = 120
            orders({1 2 3 4 5}, 1, 12) = 120
            orders({0 1 2 3}, 0, 4) = 1
            orders({0 1 2 3}, 0, 12) = 23
            """);
    }

    private static void explained() {
        script.run("21 explained", """
            text "m,mfa,mfb,mfa"
            family() = 4
            thing(0, 1, 0, 12) = 0
            explained({}) = NONE
            image() = 1
            explained({}) = 1
            explained({0}) = 0
            dies(0) = 1
            explained({}) = 0
            explained({0}) = 1
            explained({0 2}) = 2
            explained({1}) = 0
            dies(1) = 1                 # held by 2 now
            explained({0 1}) = 1
            explained({0 1 3}) = 3
            explained({0 1 2}) = 0
            explained({0 1 2 3}) = 0
            dies(2) = 1                 # lapsed now
            explained({0 1 2 3}) = 24
            explained({0 1 3}) = 3      # by 1 0 3, 1 3 0, 3 1 0
            explained({0 1 2}) = 3      # 0 1 2, 0 2 1, 2 0 1; else 3 has it
            count(1) = 1
            """);
        script.run("21 by the image's rules", """
            text "m,wfa,mfa"
            family() = 3
            thing(0, 1, 0, 12) = 0
            image() = 1
            rule(0, 1, 1) = 0
            dies(0) = 1
            of(0, 2) = 1
            explained({0}) = 0
            restore() = 1
            dies(0) = 1
            rule(0, 1, 1) = 0
            explained({0}) = 1
            """);
    }

    private static void explainedRefused() {
        script.run("21 bad, none", """
            text "m,m,m,m,m,m,m"
            family() = 7
            explained(-1) = BAD
            explained(4096) = BAD
            explained(MIN) = BAD
            explained({0 1 2 3 4 5}) = BAD      # ahead of NONE
            explained({11}) = NONE              # ahead of who does not live
            dies(0) = 0
            image() = 1
            explained({0}) = BAD
            explained({0 1}) = BAD
            explained({7}) = BAD
            explained({11}) = BAD
            explained({1 2 3 4 5 6}) = BAD
            explained({1 2 3 4 5}) = 120
            dies(1) = 0
            explained({1}) = 1                  # lives in it
            text "m,m,m,m,m,m,m,m"
            family() = 8
            explained({0}) = BAD
            explained({7}) = BAD
            """);
    }

    private static void explainedWholly() {
        script.run("21 kinds, worths, others, how many", """
            text "m,m,mfb,wfb"
            family() = 4
            thing(1, 5, 0, 1) = 0
            image() = 1
            dies(1) = 0
            of(0, 3) = 2
            explained({1}) = 1
            explained({}) = 0           # another other
            thing(0, 1, 0, 12) = 1
            explained({1}) = 0          # one more
            text "m,m,m,m"
            family() = 4
            thing(1, 5, 0, 2) = 0
            explained({1}) = 1
            text "m,m,m,m"
            family() = 4
            thing(1, 6, 0, 2) = 0
            explained({1}) = 0          # another worth
            text "m,m,m,m"
            family() = 4
            thing(2, 5, 0, 2) = 0
            explained({1}) = 0          # another kind
            text "m,m,m,m"
            family() = 4
            thing(1, 5, 3, 2) = 0
            explained({1}) = 0          # another holder
            text "m,m,m,m"
            family() = 4
            explained({1}) = 0          # one less
            """);
        script.run("21 lapsed is not ended", """
            text "m,wfa,m"
            family() = 3
            thing(1, 5, 0, 1) = 0
            image() = 1
            dies(0) = 1
            of(0, 2) = 13
            explained({0}) = 1
            explained({0 1}) = 1
            explained({1}) = 0
            restore() = 1
            dies(1) = 0
            of(0, 2) = 12
            explained({0}) = 0
            explained({1}) = 1
            explained({0 1}) = 1
            """);
    }

    private static void lots() {
        script.run("22 lots", """
            text "m,wsa"
            family() = 2
            lots(1) = 100               # 16838, 5758, 10113: a daughter
            told(2, 0) = 1
            told(2, 2) = 0
            told(2, 3) = 1
            lots(1) = 100               # 17515, 31051, 5627: another one
            told(3, 0) = 1
            lots(1) = 1                 # 23010, 7419: of four the last
            told(3, 1) = 0
            lots(1) = 1                 # 16212, 4086: of three the first
            told(0, 1) = 0
            told(1, 4) = 12
            lots(2) = 0                 # 2749, 12767: no woman has a spouse
            lots(1) = 1                 # 9084, 12060: of two the first
            told(1, 1) = 0
            lots(3) = 1                 # 32225, 17543, 25089, 21183
            count(1) = 0
            lots(2) = 0                 # 25137, 25566: nobody lives
            count(0) = 4
            seed(1) = 1675546029
            """);
        script.run("22 at once", """
            text "m,wsa"
            family() = 2
            thing(0, 7, 0, 12) = 0
            thing(1, 7, 0, 1) = 1
            lots(12) = 204
            seed(1) = 1675546029
            count(0) = 4
            count(1) = 0
            of(0, 2) = 12
            """);
        script.run("22 bad", """
            lots(0) = BAD
            lots(-1) = BAD
            lots(31) = BAD
            lots(MAX) = BAD
            seed(1) = 1                 # nothing is drawn
            lots(1) = 0
            seed(1) = 1103527590
            lots(30) = 0
            """);
        script.run("22 no birth beyond twelve", """
            text "m,m,m,m,m,m,m,m,m,m,m,wsa"
            family() = 12
            lots(2) = 0                 # 16838, 5758
            seed(1) = 377401575
            text "m,m,m,m,m,m,m,m,m,m,wsa"
            family() = 11
            lots(1) = 100
            seed(1) = 662824084
            """);
    }

    private static void lotsOfTwo() {
        script.run("22 which woman", """
            text "w,m,wsb,m,wsd,wsb"
            family() = fault 16         # b has a spouse
            text "w,m,wsb,m,wsd,m,wsf"
            family() = 7
            lots(1) = 100               # 5758 by 3 leaves 1: of 2, 4, 6 that is 4; 10113: a daughter
            told(7, 2) = 3
            told(7, 3) = 4
            told(7, 0) = 1
            dies(2) = 0
            dies(5) = 0
            lots(1) = 100               # 31051 by 1; 2 is dead, 6 is a widow
            told(8, 3) = 4
            """);
        script.run("22 the first of all bears", """
            text "w,msa"
            family() = 2
            lots(1) = 100
            told(2, 2) = 1
            told(2, 3) = 0
            """);
        script.run("22 from other seeds", """
            text "m,wsa"
            family() = 2
            seed(377401575) = 1
            lots(1) = 1                 # 10113, 17515: of two the second
            told(1, 1) = 0
            seed(2147483647) = 1147902781
            lots(1) = 0                 # 15929: 2
            seed(0) = 1043980748
            lots(1) = 1                 # 0: death
            """);
        script.run("22 a child that is a son", """
            text "m,wsa"
            family() = 2
            seed(5) = 1
            lots(1) = 100               # 18655, 8457, 10616
            told(2, 0) = 0
            told(2, 1) = 1
            told(2, 2) = 0
            told(2, 3) = 1
            told(2, 4) = 12
            told(2, 5) = 12
            seed(5) = 695785320
            """);
        script.run("22 what one held goes on", """
            text "m,mfa,wfa"
            family() = 3
            thing(0, 9, 0, 12) = 0
            thing(1, 9, 1, 0) = 1
            seed(0) = 1
            lots(1) = 1                 # 0, 21468: of three the first
            told(0, 1) = 0
            of(0, 2) = 1
            of(1, 2) = 13
            seed(0) = 1406932606
            """);
    }

    private static void seed() {
        script.run("23 seed", """
            seed(0) = 1
            seed(MAX) = 0
            seed(-1) = BAD
            seed(MIN) = BAD
            seed(5) = 2147483647
            seed(5) = 5
            """);
    }

    private static void image() {
        script.run("24, 25 image, restore", """
            restore() = NONE
            text "m,wsa,mfaob"
            family() = 3
            god(0, 2) = 12
            thing(0, 10, 0, 12) = 0
            thing(1, 20, 0, 1) = 1
            rule(1, 2, 1) = 1
            seed(42) = 1
            sheet(0, 1, 5) = 5
            text "m,"
            image() = 1
            dies(0) = 2
            person(0, 12, 12) = 3
            adopt(2, 0) = NOT
            rule(1, 8, 2) = 2
            rule(0, 5, 1) = 0
            god(0, 1) = 2
            seed(43) = 42
            thing(3, 1, 3, 12) = 2
            marry(3, 1) = 1
            drop(0) = 5
            sheet(1, 0, 2) = 2
            text "w"
            restore() = 1
            count(0) = 3
            count(1) = 3
            count(2) = 2
            told(0, 4) = 1
            told(1, 4) = 0
            told(0, 5) = 2
            of(0, 2) = 0
            of(1, 2) = 0
            of(1, 3) = 1
            rule(1, 1, 1) = 2
            rule(0, 0, 1) = 0
            seed(1) = 42
            drop(0) = NULL              # no sheet is kept
            drop(1) = 2
            family() = 2                # nor is the tape
            restore() = 1               # again, and rules changed behind the first time do not matter
            count(0) = 3
            rule(1, 1, 1) = 2
            dies(2) = 0
            image() = 1                 # in place of the other one
            restore() = 1
            count(1) = 2
            told(2, 1) = 0
            """);
        script.run("25 rules with their lengths", """
            text "m,mfa,wfa"
            family() = 3
            rule(0, 8, 2) = 0           # 0 1
            image() = 1
            rule(0, 0, 1) = 8
            restore() = 1
            dies(1) = 0
            heir(0, 0) = 2
            adopt(2, 0) = 0
            """);
        script.run("24 an image of nothing", """
            image() = 1
            person(0, 12, 12) = 0
            restore() = 1
            count(0) = 0
            told(0, 0) = BAD
            explained({}) = 1
            """);
    }
}
