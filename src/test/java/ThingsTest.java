/** Promises 8 to 11 and 15: thing, of, rule, heir, count. */
public final class ThingsTest {
    private static final Script script = new Script();

    public static void main(String[] args) {
        thing();
        of();
        rule();
        heir();
        count();
        script.end();
    }

    private static void thing() {
        script.run("8 thing", """
            text "m,w,m"
            family() = 3
            thing(0, 0, 0, 12) = 0
            thing(1, 99, 0, 1) = 1
            thing(2, 5, 1, 0) = 2
            thing(3, 7, 2, 12) = 3
            of(1, 0) = 1
            of(1, 1) = 99
            of(1, 2) = 0
            of(1, 3) = 1
            of(3, 3) = 12
            count(2) = 4
            """);
        script.run("8 bad", """
            text "m,w,m"
            family() = 3
            thing(4, 1, 0, 12) = BAD
            thing(-1, 1, 0, 12) = BAD
            thing(0, 100, 0, 12) = BAD
            thing(0, -1, 0, 12) = BAD
            thing(0, 1, 3, 12) = BAD
            thing(0, 1, -1, 12) = BAD
            thing(0, 1, 12, 12) = BAD
            thing(0, 1, 0, 1) = BAD     # land has no other
            thing(3, 1, 0, 1) = BAD     # nor has a joke
            thing(0, 1, 0, -1) = BAD
            thing(3, 1, 0, 13) = BAD
            thing(1, 1, 0, 12) = BAD    # a debt has one
            thing(2, 1, 0, 12) = BAD
            thing(1, 1, 0, 0) = BAD
            thing(2, 1, 1, 1) = BAD
            thing(1, 1, 0, 3) = BAD
            thing(2, 1, 0, -1) = BAD
            dies(2) = 0
            thing(0, 1, 2, 12) = BAD    # dead
            thing(3, 1, 2, 12) = BAD
            thing(1, 1, 2, 0) = BAD
            thing(1, 1, 0, 2) = BAD
            thing(2, 1, 0, 2) = BAD
            count(2) = 0
            thing(1, 1, 0, 1) = 0
            """);
        script.run("8 full", """
            person(0, 12, 12) = 0
            thing(0, 1, 0, 12) = 0
            thing(0, 1, 0, 12) = 1
            thing(0, 1, 0, 12) = 2
            thing(0, 1, 0, 12) = 3
            thing(0, 1, 0, 12) = 4
            thing(0, 1, 0, 12) = 5
            thing(0, 1, 0, 12) = 6
            thing(0, 1, 0, 12) = 7
            thing(0, 1, 0, 12) = 8
            thing(0, 1, 0, 12) = 9
            thing(0, 1, 0, 12) = 10
            thing(3, 2, 0, 12) = 11
            thing(0, 1, 0, 12) = FULL
            thing(0, 100, 0, 12) = BAD
            count(2) = 12
            of(11, 0) = 3
            dies(0) = 12
            person(0, 12, 12) = 1
            thing(0, 1, 1, 12) = FULL   # what has lapsed counts, too
            """);
    }

    private static void of() {
        script.run("9 of", """
            text "m,w,wfa"
            family() = 3
            thing(0, 3, 0, 12) = 0
            thing(1, 4, 0, 2) = 1
            thing(2, 5, 1, 0) = 2
            of(0, 0) = 0
            of(0, 1) = 3
            of(0, 2) = 0
            of(0, 3) = 12
            of(2, 0) = 2
            of(2, 3) = 0
            of(0, 4) = BAD
            of(0, -1) = BAD
            of(3, 0) = BAD
            of(-1, 0) = BAD
            of(12, 0) = BAD
            dies(0) = 2
            of(0, 2) = 12               # lapsed
            of(0, 3) = 12
            of(1, 2) = 13               # ended: the daughter was owed it
            of(1, 3) = 12
            of(1, 0) = 1
            of(1, 1) = 4
            of(2, 2) = 12
            of(2, 3) = 12
            """);
    }

    private static void rule() {
        script.run("10 rule", """
            rule(0, 0, 1) = 0
            rule(0, 5, 1) = 0
            rule(0, 0, 1) = 5
            rule(1, 8, 2) = 1           # SON, DAUGHTER
            rule(1, 1, 2) = 8           # DAUGHTER, SON
            rule(1, 1, 1) = 1
            rule(2, 232, 3) = 3         # 0 5 3
            rule(2, 42, 2) = 232        # 2 5
            rule(3, 0x13, 2) = 5        # 3 2
            rule(3, 1, 1) = 19
            rule(3, 5, 1) = 1
            """);
        script.run("10 bad", """
            rule(4, 0, 1) = BAD
            rule(-1, 0, 1) = BAD
            rule(0, 1, 0) = BAD
            rule(0, 0, 0) = BAD
            rule(0, 1, -1) = BAD
            rule(0, 209, 4) = BAD
            rule(0, 6, 1) = BAD
            rule(0, 7, 1) = BAD
            rule(0, 48, 2) = BAD        # 0 6
            rule(0, 0, 2) = BAD         # 0 0
            rule(0, 9, 2) = BAD         # 1 1
            rule(0, 81, 3) = BAD        # 1 2 1
            rule(0, 82, 3) = BAD        # 2 2 1
            rule(0, 73, 3) = BAD        # 1 1 1
            rule(0, 8, 1) = BAD         # more digits
            rule(0, 64, 2) = BAD
            rule(0, 593, 3) = BAD       # 1 2 1 1
            rule(0, 1105, 3) = BAD      # 1 2 1 2
            rule(0, 648, 3) = BAD       # 0 1 2 1
            rule(0, -1, 1) = BAD
            rule(0, -8, 1) = BAD
            rule(0, MIN, 1) = BAD
            rule(0, MAX, 3) = BAD
            rule(0, 1, 1) = 0           # nothing has changed
            """);
    }

    private static void heir() {
        script.run("11 heir", """
            text "m,wsa,mfaob,wfaob,mfaob,wfaob"
            family() = 6
            heir(0, 0) = 2
            heir(0, 1) = 3
            heir(0, 2) = NONE
            heir(0, 3) = NONE
            god(0, 5) = 12
            heir(0, 3) = 5
            dies(2) = 0
            heir(0, 0) = 4              # the first who lives
            dies(4) = 0
            heir(0, 0) = NONE
            rule(0, 0x21, 2) = 0        # 1 4
            heir(0, 0) = 3
            rule(0, 8, 2) = 33          # 0 1: sons are none, daughters are
            heir(0, 0) = 3
            rule(0, 280, 3) = 8         # 0 3 4
            heir(0, 0) = 1
            heir(1, 0) = 0
            heir(3, 0) = NONE
            rule(0, 8, 2) = 280
            heir(5, 0) = NONE
            """);
        script.run("11 the row's order comes first, then numbers", """
            text "m,wfa,mfa,w"
            family() = 4
            rule(0, 8, 2) = 0           # SON, DAUGHTER
            heir(0, 0) = 2
            rule(0, 1, 2) = 8           # DAUGHTER, SON
            heir(0, 0) = 1
            rule(0, 26, 2) = 1          # SIBLING, COUSIN
            heir(1, 0) = 2
            heir(2, 0) = 1
            rule(0, 2, 1) = 26
            heir(3, 0) = NONE
            """);
        script.run("11 bad, not", """
            heir(0, 0) = BAD
            text "m,mfa"
            family() = 2
            heir(2, 0) = BAD
            heir(-1, 0) = BAD
            heir(0, 4) = BAD
            heir(0, -1) = BAD
            heir(0, 0) = 1
            dies(0) = 0
            heir(0, 0) = NOT
            heir(0, 4) = BAD            # ahead of NOT
            heir(1, 0) = NONE
            """);
    }

    private static void count() {
        script.run("15 count", """
            text "m,w,wfa"
            family() = 3
            thing(0, 30, 0, 12) = 0
            thing(0, 40, 1, 12) = 1
            thing(1, 5, 0, 2) = 2
            thing(3, 7, 1, 12) = 3
            thing(0, 2, 2, 12) = 4
            count(0) = 3
            count(1) = 3
            count(2) = 5
            count(3) = 5
            count(4) = 0
            count(5) = 0
            count(6) = 72               # lands alone
            dies(0) = 2
            count(0) = 3
            count(1) = 2
            count(2) = 5
            count(3) = 3
            count(4) = 1
            count(5) = 1
            count(6) = 42
            count(7) = BAD
            count(-1) = BAD
            """);
    }
}
