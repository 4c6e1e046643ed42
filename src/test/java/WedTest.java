/** Promise 27: wed. */
public final class WedTest {
    private static final Script script = new Script();

    public static void main(String[] args) {
        none();
        one();
        two();
        houseThen();
        whoCanMarry();
        refused();
        script.end();
    }

    private static void none() {
        script.run("27 by no marriage", """
            text "m,mfa,wfa,m"
            family() = 4
            thing(0, 5, 0, 12) = 0
            sheet(0, 0, 3) = 3          # 0 1 3
            item(0, 0, 1, 1) = 1
            item(0, 0, 2, 3) = 1
            wed(0, 0, 0, 0, 2, 1, -1) = 0
            wed(0, 0, 0, 0, 2, 1, 0) = NONE
            wed(0, 0, 0, 0, 2, 1, 3) = NONE
            wed(0, 0, 0, 0, 0, 1, -1) = 0       # the son has it, of the same house
            wed(0, 0, 0, 0, 0, 2, -1) = NOT     # it has lapsed
            wed(0, 3, 0, 0, 0, 1, -1) = NOT
            wed(0, 3, 0, 0, 0, 1, 0) = NOT
            count(1) = 4
            of(0, 2) = 0
            """);
    }

    private static void one() {
        script.run("27 by one", """
            text "m,w,m,wfa,mfc,m,w"
            family() = 7
            thing(0, 5, 3, 12) = 0
            sheet(1, 1, 1) = 1
            item(1, 1, 0, 5) = 1
            wed(0, 0, 1, 1, 0, 1, -1) = 0
            wed(0, 2, 1, 1, 0, 1, -1) = 1
            wed(0, 2, 1, 1, 0, 1, 0) = 2        # the first of 2 and 4
            wed(0, 2, 1, 1, 0, 1, 1) = 3
            wed(0, 2, 1, 1, 0, 1, 2) = NONE
            wed(0, 2, 1, 1, 0, 1, 3) = NONE
            told(2, 4) = 12                     # nothing is changed
            told(3, 4) = 12
            told(5, 1) = 1
            wed(0, 5, 1, 1, 0, 1, -1) = NOT     # that one dies
            wed(0, 1, 1, 1, 0, 1, -1) = NOT
            wed(0, 11, 1, 1, 0, 1, -1) = NOT    # nobody's house
            marry(2, 6) = 1
            wed(0, 2, 1, 1, 0, 1, -1) = 1
            wed(0, 2, 1, 1, 0, 1, 0) = 4
            wed(0, 2, 1, 1, 0, 1, 1) = 3
            """);
        script.run("27 the first man, then the first woman", """
            text "m,w,w,m,w"
            family() = 5
            rule(0, 4, 1) = 0           # land to the spouse
            thing(0, 5, 0, 12) = 0
            sheet(0, 2, 2) = 2          # 0 3
            item(0, 2, 1, 3) = 1
            wed(0, 1, 0, 2, 0, 1, -1) = 1
            wed(0, 1, 0, 2, 0, 1, 0) = 0
            wed(0, 1, 0, 2, 0, 1, 1) = 1
            wed(0, 4, 0, 2, 0, 1, 1) = 4
            wed(0, 4, 0, 2, 0, 2, 1) = 4
            thing(0, 5, 4, 12) = 1
            wed(1, 0, 0, 2, 1, 1, 0) = 0
            wed(1, 0, 0, 2, 1, 1, 1) = 4
            wed(1, 3, 0, 2, 1, 1, -1) = NOT
            wed(1, 4, 0, 2, 1, 1, -1) = 0
            """);
        script.run("27 woman numbers behind man numbers", """
            text "w,w,m,m"
            family() = 4
            rule(0, 4, 1) = 0
            thing(0, 1, 1, 12) = 0
            sheet(0, 0, 1) = 1
            item(0, 0, 0, 1) = 1        # she dies, he has it
            wed(0, 2, 0, 0, 0, 1, 0) = 2
            wed(0, 2, 0, 0, 0, 1, 1) = 1
            wed(0, 3, 0, 0, 0, 1, 0) = 3
            wed(0, 0, 0, 0, 0, 1, -1) = NOT
            """);
    }

    private static void two() {
        script.run("27 by two", """
            text "m,m,wfb,wfb,m,w"
            family() = 6
            rule(0, 20, 2) = 0          # land to the spouse, then to a sibling
            thing(0, 5, 0, 12) = 0
            sheet(0, 0, 3) = 3          # 0 2 4
            item(0, 0, 1, 2) = 1
            item(0, 0, 2, 4) = 1
            wed(0, 4, 0, 0, 0, 2, -1) = 2
            wed(0, 4, 0, 0, 0, 2, 0) = 0
            wed(0, 4, 0, 0, 0, 2, 1) = 2
            wed(0, 4, 0, 0, 0, 2, 2) = 4
            wed(0, 4, 0, 0, 0, 2, 3) = 3
            wed(0, 1, 0, 0, 0, 2, -1) = 1
            wed(0, 1, 0, 0, 0, 2, 0) = 0
            wed(0, 1, 0, 0, 0, 2, 1) = 2
            wed(0, 1, 0, 0, 0, 2, 2) = NONE
            wed(0, 5, 0, 0, 0, 2, 1) = 5
            wed(0, 4, 0, 0, 0, 3, -1) = NOT     # 4 dies, the widow is of 1's house
            wed(0, 4, 0, 0, 0, 1, -1) = NOT     # a widow can't marry on
            told(0, 4) = 12
            told(4, 4) = 12
            count(1) = 6
            """);
        script.run("27 the greater man's marriage is told behind", """
            text "w,wfa,m,m,moa,woa"
            family() = fault 4          # a is a woman
            text "m,wfa,wfa,m,m"
            family() = 5
            rule(0, 20, 2) = 0
            thing(0, 5, 4, 12) = 0
            sheet(0, 0, 2) = 2
            item(0, 0, 0, 4) = 1
            item(0, 0, 1, 1) = 1        # 4 dies, then 1: her sister 2 has it, and is 3's
            wed(0, 3, 0, 0, 0, 2, -1) = 2
            wed(0, 3, 0, 0, 0, 2, 0) = 3
            wed(0, 3, 0, 0, 0, 2, 1) = 2
            wed(0, 3, 0, 0, 0, 2, 2) = 4
            wed(0, 3, 0, 0, 0, 2, 3) = 1
            """);
    }

    private static void houseThen() {
        script.run("27 the house as it is then", """
            text "m,wfa,m,mfc"
            family() = 4
            thing(0, 5, 1, 12) = 0
            sheet(0, 0, 2) = 2
            item(0, 0, 0, 2) = 1
            item(0, 0, 1, 3) = 1
            wed(0, 2, 0, 0, 0, 1, -1) = 1       # 2 dies, but 3 is of the house
            wed(0, 2, 0, 0, 0, 1, 0) = 3
            wed(0, 2, 0, 0, 1, 1, 0) = 2
            wed(0, 2, 0, 0, 0, 2, -1) = NOT     # a widow goes back
            wed(0, 0, 0, 0, 0, 2, -1) = 0
            marry(2, 1) = 1
            wed(0, 2, 0, 0, 1, 1, -1) = 0
            wed(0, 0, 0, 0, 0, 1, -1) = 0
            wed(0, 0, 0, 0, 1, 1, -1) = NOT
            """);
        script.run("27 what ends or lapses is in no house", """
            text "m,wfa,mfa"
            family() = 3
            thing(1, 5, 0, 1) = 0
            thing(3, 5, 0, 12) = 1
            sheet(0, 0, 1) = 1
            wed(0, 0, 0, 0, 0, 1, -1) = NOT
            wed(1, 0, 0, 0, 0, 1, -1) = NOT
            dies(0) = 2
            item(0, 0, 0, 2) = 1
            wed(0, 0, 0, 0, 0, 1, -1) = NOT
            wed(1, 0, 0, 0, 0, 1, -1) = NOT
            """);
    }

    private static void whoCanMarry() {
        script.run("27 a brother, a father, a dead one can't be taken", """
            text "m,wfa,mfa,m,m,w"
            family() = 6
            thing(0, 5, 1, 12) = 0
            sheet(0, 0, 1) = 1
            item(0, 0, 0, 3) = 1
            adopt(2, 0) = 0
            wed(0, 4, 0, 0, 0, 1, 0) = 4
            marry(4, 5) = 1
            wed(0, 4, 0, 0, 0, 1, -1) = NOT     # married
            dies(5) = 0
            wed(0, 4, 0, 0, 0, 1, 0) = 4
            dies(4) = 0
            wed(0, 4, 0, 0, 0, 1, -1) = NOT     # dead
            """);
        script.run("27 near kin", """
            text "m,w,mfaob,wob,wfa,m"
            family() = 6
            rule(0, 4, 1) = 0
            thing(0, 5, 2, 12) = 0
            sheet(0, 0, 2) = 2
            item(0, 0, 0, 2) = 1
            wed(0, 3, 0, 0, 0, 1, -1) = NOT     # a half sister
            wed(0, 0, 0, 0, 0, 1, -1) = NOT
            wed(0, 1, 0, 0, 0, 1, -1) = NOT     # his mother
            """);
    }

    private static void refused() {
        script.run("27 refused", """
            text "m,w"
            family() = 2
            thing(0, 5, 0, 12) = 0
            wed(0, 0, 0, 0, 0, 1, -1) = NULL
            sheet(0, 1, 3) = 3
            item(0, 1, 2, 5) = 1                # 0 0 5
            wed(1, 0, 0, 1, 0, 1, -1) = BAD
            wed(-1, 0, 0, 1, 0, 1, -1) = BAD
            wed(0, 12, 0, 1, 0, 1, -1) = BAD
            wed(0, -1, 0, 1, 0, 1, -1) = BAD
            wed(0, 0, 4, 1, 0, 1, -1) = BAD
            wed(0, 0, -1, 1, 0, 1, -1) = BAD
            wed(0, 0, 0, 3, 0, 1, -1) = BAD
            wed(0, 0, 0, -1, 0, 1, -1) = BAD
            wed(0, 0, 0, 1, 0, 0, -1) = BAD
            wed(0, 0, 0, 1, 0, 9, -1) = BAD
            wed(0, 0, 0, 1, 0, 1, -2) = BAD
            wed(0, 0, 0, 1, 0, 1, 4) = BAD
            wed(0, 0, 1, 1, 0, 1, 4) = BAD      # ahead of NULL
            wed(1, 0, 1, 1, 0, 1, 0) = BAD
            wed(0, 0, 1, 1, 9, 1, 0) = NULL
            wed(0, 0, 0, 0, 9, 1, 0) = CAST
            wed(0, 0, 0, 2, 0, 1, 0) = CAST
            wed(0, 0, 0, 1, -1, 1, 0) = INDEX
            wed(0, 0, 0, 1, 3, 1, 0) = INDEX
            wed(0, 0, 0, 1, 0, 4, 0) = INDEX    # ahead of NOT
            wed(0, 0, 0, 1, MAX, 1, 0) = INDEX
            wed(0, 0, 0, 1, 0, 2, 0) = NOT      # 0 twice
            wed(0, 0, 0, 1, 2, 1, 3) = NOT      # nobody is 5; ahead of NONE
            wed(0, 1, 0, 1, 0, 1, -1) = NOT
            item(0, 1, 2, 1) = 1
            wed(0, 0, 0, 1, 2, 1, -1) = 0
            wed(0, 0, 0, 1, 2, 1, 3) = NONE
            """);
        script.run("27 a row of eight", """
            text "m,mfa,mfb,mfc,mfd,mfe,mff,mfg,mfh"
            family() = 9
            thing(0, 5, 0, 12) = 0
            sheet(0, 0, 8) = 8
            item(0, 0, 1, 1) = 1
            item(0, 0, 2, 2) = 1
            item(0, 0, 3, 3) = 1
            item(0, 0, 4, 4) = 1
            item(0, 0, 5, 5) = 1
            item(0, 0, 6, 6) = 1
            item(0, 0, 7, 7) = 1
            wed(0, 0, 0, 0, 0, 8, -1) = 0
            wed(0, 0, 0, 0, 1, 7, -1) = 0
            item(0, 0, 7, 6) = 1
            wed(0, 0, 0, 0, 0, 8, -1) = NOT
            """);
    }
}
