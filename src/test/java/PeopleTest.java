/** Promises 1 to 7: a new object, person, marry, adopt, god, told, kin. */
public final class PeopleTest {
    private static final Script script = new Script();

    public static void main(String[] args) {
        newObject();
        person();
        marry();
        adopt();
        god();
        told();
        houses();
        kin();
        cousins();
        script.end();
    }

    private static void newObject() {
        script.run("1 nobody, nothing", """
            count(0) = 0
            count(1) = 0
            count(2) = 0
            count(3) = 0
            count(4) = 0
            count(5) = 0
            count(6) = 0
            told(0, 0) = BAD
            of(0, 0) = BAD
            paid() = 0
            restore() = NONE
            seed(5) = 1
            drop(0) = NULL
            drop(1) = NULL
            drop(2) = NULL
            drop(3) = NULL
            rule(0, 5, 1) = 0
            rule(1, 5, 1) = 1
            rule(2, 5, 1) = 3
            rule(3, 4, 1) = 5
            """);
    }

    private static void person() {
        script.run("2 person", """
            person(0, 12, 12) = 0
            person(1, 12, 12) = 1
            person(0, 0, 1) = 2
            person(1, 2, 12) = 3
            person(1, 12, 3) = 4
            told(2, 0) = 0
            told(2, 1) = 1
            told(2, 2) = 0
            told(2, 3) = 1
            told(2, 4) = 12
            told(2, 5) = 12
            told(4, 0) = 1
            told(4, 2) = 12
            told(4, 3) = 3
            count(0) = 5
            count(1) = 5
            """);
        script.run("2 who is no parent", """
            person(2, 12, 12) = BAD
            person(-1, 12, 12) = BAD
            person(0, 0, 12) = BAD      # oneself
            person(0, 12, 0) = BAD
            person(0, 12, 12) = 0
            person(1, 12, 12) = 1
            person(0, 1, 12) = BAD      # a woman
            person(0, 12, 0) = BAD      # a man
            person(0, 2, 12) = BAD
            person(0, 12, 2) = BAD
            person(0, -1, 12) = BAD
            person(0, 12, -1) = BAD
            person(0, 13, 12) = BAD
            person(0, 12, 13) = BAD
            person(0, MIN, 12) = BAD
            person(0, 12, MAX) = BAD
            count(0) = 2
            dies(0) = 0
            dies(1) = 0
            person(0, 0, 1) = 2         # of dead ones
            told(2, 1) = 1
            """);
        script.run("2 full", """
            text "m,m,m,m,m,m,m,m,m,m,m"
            family() = 11
            person(1, 10, 12) = 11
            person(0, 12, 12) = FULL
            person(0, 11, 12) = BAD
            person(0, 10, 11) = FULL
            person(3, 12, 12) = BAD
            dies(4) = 0
            person(0, 12, 12) = FULL    # the dead count, too
            count(0) = 12
            told(11, 2) = 10
            """);
    }

    private static void marry() {
        script.run("3 marry", """
            text "m,w,m,w"
            family() = 4
            marry(0, 1) = 1
            told(0, 4) = 1
            told(1, 4) = 0
            marry(2, 3) = 1
            told(2, 4) = 3
            marry(0, 3) = NOT
            """);
        script.run("3 bad", """
            text "m,w,m,w"
            family() = 4
            marry(1, 0) = BAD
            marry(0, 2) = BAD
            marry(3, 1) = BAD
            marry(0, 4) = BAD
            marry(4, 1) = BAD
            marry(-1, 1) = BAD
            marry(0, -1) = BAD
            marry(12, 1) = BAD
            marry(0, 12) = BAD
            told(0, 4) = 12
            told(1, 4) = 12
            dies(2) = 0
            marry(2, 0) = BAD           # ahead of NOT
            marry(2, 1) = NOT           # dead
            dies(3) = 0
            marry(0, 3) = NOT
            marry(0, 1) = 1
            """);
        script.run("3 one has a spouse", """
            text "m,wsa,m,w"
            family() = 4
            marry(0, 3) = NOT
            marry(2, 1) = NOT
            marry(0, 1) = NOT
            told(3, 4) = 12
            told(2, 4) = 12
            told(0, 4) = 1
            dies(0) = 0
            marry(2, 1) = 1             # a widow
            told(1, 4) = 2
            told(0, 4) = 1
            """);
        script.run("3 near kin", """
            text "m,w,mfaob,wfaob,wfa,wob,mfa,mob"
            family() = 8
            marry(2, 3) = NOT           # father and mother alike
            marry(2, 4) = NOT           # father alike
            marry(2, 5) = NOT           # mother alike
            marry(6, 4) = NOT           # father alike, mothers unknown
            marry(7, 5) = NOT           # mother alike, fathers unknown
            marry(6, 5) = 1             # a's and b's
            marry(7, 4) = 1
            marry(0, 3) = NOT           # her father
            marry(0, 4) = NOT
            marry(2, 1) = NOT           # his mother
            marry(0, 1) = 1
            """);
        script.run("3 a grandfather, an aunt, who is unknown twice", """
            text "m,mfa,wfb,wfa"
            family() = 4
            marry(0, 2) = 1
            dies(2) = 0
            person(1, 1, 12) = 4
            person(0, 1, 12) = 5
            marry(5, 3) = 1
            person(0, 12, 12) = 6
            person(1, 12, 12) = 7
            marry(6, 7) = 1
            """);
    }

    private static void adopt() {
        script.run("4 adopt", """
            text "m,m,w,mfa,wfa"
            family() = 5
            adopt(3, 1) = 0
            told(3, 2) = 1
            told(3, 6) = 1
            kin(1, 0) = {3}
            kin(0, 0) = {}
            kin(3, 2) = {}
            adopt(3, 0) = 1
            adopt(2, 1) = 12
            told(2, 2) = 1
            adopt(4, 0) = 0
            adopt(1, 0) = 12
            told(3, 3) = 12
            """);
        script.run("4 bad, not", """
            text "m,w,m,m,w"
            family() = 5
            adopt(2, 1) = BAD           # a woman
            adopt(2, 3) = BAD           # of a greater number
            adopt(2, 2) = BAD
            adopt(4, 4) = BAD
            adopt(5, 0) = BAD
            adopt(12, 0) = BAD
            adopt(-1, 0) = BAD
            adopt(3, -1) = BAD
            adopt(3, 12) = BAD
            adopt(0, 12) = BAD
            dies(2) = 0
            adopt(3, 2) = NOT
            adopt(2, 0) = NOT
            adopt(2, 1) = BAD           # ahead of NOT
            adopt(2, 3) = BAD
            told(3, 2) = 12
            told(2, 2) = 12
            adopt(3, 0) = 12
            """);
    }

    private static void god() {
        script.run("5 god", """
            text "m,w,m"
            family() = 3
            god(0, 2) = 12
            told(0, 5) = 2
            told(2, 5) = 12
            god(0, 1) = 2
            god(1, 0) = 12
            god(0, 12) = 1
            told(0, 5) = 12
            god(0, 12) = 12
            god(0, 0) = BAD
            god(3, 0) = BAD
            god(0, 3) = BAD
            god(0, 13) = BAD
            god(0, -1) = BAD
            god(-1, 0) = BAD
            god(12, 12) = BAD
            god(12, 0) = BAD
            told(0, 5) = 12
            dies(2) = 0
            god(0, 2) = 12              # of the dead nothing is said
            god(2, 1) = 12
            told(0, 5) = 2
            kin(0, 5) = {}
            kin(2, 5) = {1}
            """);
    }

    private static void told() {
        script.run("6 told", """
            text "m,wsa,wfaob"
            family() = 3
            god(2, 0) = 12
            told(0, 0) = 0
            told(1, 0) = 1
            told(2, 1) = 1
            told(2, 2) = 0
            told(2, 3) = 1
            told(2, 4) = 12
            told(1, 4) = 0
            told(2, 5) = 0
            told(2, 6) = 0
            told(0, 7) = BAD
            told(0, -1) = BAD
            told(3, 0) = BAD
            told(-1, 0) = BAD
            told(12, 0) = BAD
            told(MAX, 0) = BAD
            dies(1) = 0
            told(1, 1) = 0
            told(1, 4) = 0              # told still
            told(0, 4) = 12
            told(2, 3) = 1
            """);
    }

    private static void houses() {
        script.run("6 houses", """
            text "m,w,mfa,wfc,m,mfe"
            family() = 6
            told(0, 6) = 0
            told(1, 6) = 1
            told(2, 6) = 0
            told(3, 6) = 0              # of the father's father
            told(5, 6) = 4
            marry(5, 3) = 1
            told(3, 6) = 4              # of the spouse's father
            told(5, 6) = 4
            adopt(4, 0) = 12
            told(3, 6) = 0
            told(5, 6) = 0
            adopt(4, 2) = 0
            marry(0, 1) = 1
            told(1, 6) = 0
            dies(5) = 0
            told(3, 6) = 0
            dies(0) = 0
            told(1, 6) = 1              # a widow without a father
            """);
        script.run("6 a widow goes back, a dead wife stays", """
            text "m,wfa,m,w"
            family() = 4
            marry(2, 1) = 1
            told(1, 6) = 2
            dies(2) = 0
            told(1, 6) = 0
            told(2, 6) = 2
            marry(0, 3) = 1
            dies(3) = 0
            told(3, 6) = 0
            told(0, 6) = 0
            person(1, 12, 3) = 4
            told(4, 6) = 4              # a mother's house is nothing
            """);
    }

    private static void kin() {
        script.run("7 kin", """
            text "m,wsa,mfaob,wfaob,mfa,wob,m"
            family() = 7
            kin(0, 0) = {2 4}
            kin(0, 1) = {3}
            kin(1, 0) = {2}
            kin(1, 1) = {3 5}
            kin(2, 2) = {3 4 5}
            kin(4, 2) = {2 3}
            kin(5, 2) = {2 3}
            kin(6, 2) = {}
            kin(0, 2) = {}
            kin(0, 4) = {1}
            kin(2, 4) = {}
            god(2, 6) = 12
            kin(2, 5) = {6}
            kin(6, 5) = {}
            dies(0) = 0
            kin(2, 2) = {3 4 5}         # the same father, dead or not
            kin(0, 0) = {2 4}
            kin(1, 4) = {}
            kin(0, 4) = {1}             # told still
            dies(4) = 0
            kin(0, 0) = {2}
            kin(2, 2) = {3 5}
            kin(4, 2) = {2 3}
            dies(3) = 0
            kin(0, 1) = {}
            dies(6) = 0
            kin(2, 5) = {}
            dies(1) = 0
            kin(0, 4) = {}
            """);
        script.run("7 bad", """
            kin(0, 0) = BAD
            person(0, 12, 12) = 0
            kin(0, 0) = 0
            kin(0, 5) = 0
            kin(0, 6) = BAD
            kin(0, -1) = BAD
            kin(1, 0) = BAD
            kin(-1, 0) = BAD
            kin(12, 0) = BAD
            """);
    }

    private static void cousins() {
        script.run("7 cousins", """
            text "m,mfa,wfa,mfb,woc,mfa,wff"
            family() = 7
            kin(3, 3) = {4 6}           # by a father, by a mother
            kin(4, 3) = {3 6}
            kin(6, 3) = {3 4}
            kin(1, 3) = {}
            dies(1) = 0
            dies(2) = 0
            kin(3, 3) = {4 6}           # the siblings between may be dead
            dies(4) = 0
            kin(3, 3) = {6}
            kin(4, 3) = {3 6}
            """);
        script.run("7 cousins by a mother's mother, half ones", """
            text "w,woa,moa,wob,mfc,m"
            family() = 6
            kin(3, 3) = {4}
            kin(4, 3) = {3}
            kin(5, 3) = {}
            """);
        script.run("7 no sibling is a cousin, nor is oneself", """
            text "m,mfa,wfa,mfboc,wfb,woc,mfb"
            family() = 7
            kin(3, 2) = {4 5 6}
            kin(3, 3) = {}              # of siblings: one's father is one's mother's brother
            kin(4, 2) = {3 6}
            kin(4, 3) = {5}
            kin(5, 3) = {4 6}
            """);
        script.run("7 without parents nobody is kin", """
            text "m,w,m,w"
            family() = 4
            kin(0, 2) = {}
            kin(0, 3) = {}
            kin(1, 2) = {}
            kin(1, 3) = {}
            """);
        script.run("7 a second cousin, an uncle are no cousins", """
            text "m,mfa,mfa,mfb,mfc,mfd,mfe"
            family() = 7
            kin(3, 3) = {4}
            kin(5, 3) = {}
            kin(5, 2) = {}
            kin(6, 3) = {}
            """);
    }
}
