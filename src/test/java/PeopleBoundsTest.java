/** The edges that the document names of people: promises 1 to 7 and section 1, a run for each of its sentences. */
public final class PeopleBoundsTest {
    private static final Script script = new Script();

    public static void main(String[] args) {
        newObject();
        person();
        personRefused();
        houses();
        marry();
        marryNot();
        adopt();
        god();
        told();
        kin();
        cousins();
        longestRun();
        script.end();
    }

    private static void newObject() {
        script.run("1 'Nobody, nothing': every number names nothing", """
            count(0|1|2|3|4|5|6) = 0
            told(0|11, 0|1|2|3|4|5|6) = BAD
            kin(0|11, 0|1|2|3|4|5) = BAD
            of(0|11, 0|1|2|3) = BAD
            heir(0|11, 0|1|2|3) = BAD
            dies(0|11) = BAD
            god(0, 12) = BAD
            marry(0, 1) = BAD
            adopt(1, 0) = BAD
            balance(0|11) = -100000001
            gathers(0|11, 0|1|2|3) = 0
            paid() = 0
            orders(0, 0, 12) = BAD
            drop(0|1|2|3) = NULL
            judged(0|1|2|3, 0, 0, 1) = NULL
            wed(0, 0, 0, 0, 0, 1, -1) = BAD     # the thing names nothing: ahead of NULL
            film(0|1|2|3, 0, 0) = NULL
            item(0|1|2|3, 0, 0, 0) = NULL
            copy(0|1|2|3, 0, 0, 0, 0) = NULL
            """);
        script.run("1 no image, an empty tape, THE DRAW 'a number of 31 bits (1 at first)'", """
            restore() = NONE
            explained(0) = NONE
            family() = fault 0
            rules() = fault 0
            seed(0) = 1
            """);
        script.run("1 'LAND 0; DEBT 1; QUARREL 3; JOKE 5 at first', each a row of one", """
            text "m,wsa,mfaob,wfaob,mfaob,mfc,mfe"
            family() = 7
            god(0, 6) = 12
            heir(0, 0) = 2
            heir(0, 1) = 3
            heir(0, 2) = NONE
            heir(5, 2) = 6
            heir(0, 3) = 6
            dies(2|4|3|6) = 0
            heir(0, 0|1|2|3) = NONE             # no second relation stands behind the first
            rule(0, 5, 1) = 0
            rule(1, 5, 1) = 1
            rule(2, 5, 1) = 3
            rule(3, 4, 1) = 5
            """);
    }

    private static void person() {
        script.run("2 'PEOPLE 0 .. 11, as they come'; 'FULL: 12'", """
            person(0, 12, 12) = 0
            person(1, 12, 12) = 1
            person(0, 12, 12) = 2
            person(1, 12, 12) = 3
            person(0, 12, 12) = 4
            person(1, 12, 12) = 5
            person(0, 12, 12) = 6
            person(1, 12, 12) = 7
            person(0, 12, 12) = 8
            person(1, 12, 12) = 9
            person(0, 12, 12) = 10
            count(0|1) = 11
            person(1, 12, 12) = 11
            count(0|1) = 12
            told(11, 0) = 1
            person(0|1, 12, 12) = FULL
            person(0|1, 0|10, 1|11) = FULL
            count(0|1) = 12
            told(12, 0) = BAD
            kin(0|10, 0|1) = {}                 # nothing of a refused child is left
            """);
        script.run("2 a dead one leaves no room", """
            text "m,m,m,m,m,m,m,m,m,m,m,m"
            family() = 12
            dies(0|11) = 0
            count(0) = 12
            count(1) = 10
            person(0, 12, 12) = FULL
            """);
        script.run("2 'FULL: 12' behind BAD: of several refusals the first", """
            text "m,m,m,m,m,m,m,m,m,m,m,w"
            family() = 12
            person(2|-1, 12, 12) = BAD
            person(0, 11|13|-1, 12) = BAD
            person(0, 12, 0|13|-1) = BAD
            person(0, 10, 11) = FULL
            """);
        script.run("2 FATHER, MOTHER may be the first and the last there is, the living and the dead", """
            text "m,w,m,w"
            family() = 4
            person(0, 0, 1) = 4
            person(0, 2, 3) = 5
            person(0, 5, 12) = 6
            dies(0|1) = 0
            person(1, 0, 1) = 7
            kin(0|1, 1) = {7}
            person(1, 6, 7) = 8
            told(8, 2) = 6
            told(8, 3) = 7
            """);
    }

    private static void personRefused() {
        script.run("2 'MEN (0) or WOMEN (1)'", """
            person(-1|2|3|12|-2|256|MAX|MIN, 12, 12) = BAD
            count(0) = 0
            person(0, 12, 12) = 0
            person(1, 12, 12) = 1
            """);
        script.run("2 '12: unknown', no other number that names nobody", """
            text "m,w"
            family() = 2
            person(0|1, -1|2|3|11|13|14|24|MAX|MIN, 12) = BAD
            person(0|1, 12, -1|2|3|11|13|14|24|MAX|MIN) = BAD
            count(0) = 2
            person(0, 12, 12) = 2
            told(2, 2|3) = 12
            """);
        script.run("2 'of lesser numbers': nobody is the own father, mother", """
            person(0, 0, 12) = BAD
            person(1, 12, 0) = BAD
            person(0, 12, 12) = 0
            person(0, 1, 12) = BAD
            person(1, 12, 1) = BAD
            person(1, 0, 12) = 1
            """);
        script.run("2 'BAD: also a FATHER who is no MAN'", """
            text "w,m,w"
            family() = 3
            person(0|1, 0|2, 12) = BAD
            person(0|1, 0|2, 0) = BAD
            person(0, 1, 0) = 3
            """);
        script.run("2 'BAD: also a MOTHER who is no WOMAN'", """
            text "m,w,m"
            family() = 3
            person(0|1, 12, 0|2) = BAD
            person(0|1, 0, 0|2) = BAD
            person(0, 0, 1) = 3
            """);
    }

    private static void houses() {
        script.run("6 HOUSE: 'without one the own number'", """
            text "m,w"
            family() = 2
            told(0, 6) = 0
            told(1, 6) = 1
            person(0, 12, 1) = 2
            told(2, 6) = 2                      # a mother alone gives no house
            """);
        script.run("6 HOUSE: 'else of the FATHER', through twelve", """
            text "m,mfa,mfb,mfc,mfd,mfe,mff,mfg,mfh,mfi,mfj,wfk"
            family() = 12
            told(0|1|2|3|4|5|6|7|8|9|10|11, 6) = 0
            dies(5|0) = 0
            told(0|5|11, 6) = 0                 # the dead have and give houses, too
            """);
        script.run("6 HOUSE: 'of a WOMAN who has a SPOUSE that one's', through eleven", """
            text "w,m,mfb,mfc,mfd,mfe,mff,mfg,mfh,mfi,mfj,mfksa"
            family() = 12
            told(0, 6) = 1
            told(0, 4) = 11
            told(11, 6) = 1
            """);
        script.run("6 HOUSE: a MAN's is never the SPOUSE's; hers goes with her SPOUSE ahead of her FATHER", """
            text "m,wfa,m"
            family() = 3
            marry(2, 1) = 1
            told(1, 6) = 2
            told(2, 6) = 2
            dies(2) = 0
            told(1, 6) = 0                      # who was the SPOUSE has none
            told(2, 6) = 2
            """);
        script.run("6 HOUSE of a dead wife: 'of the dead one that SPOUSE is told still'", """
            text "m,wfa,m,w"
            family() = 4
            marry(2, 1) = 1
            dies(1) = 0
            told(1, 4) = 2
            told(1, 6) = 2
            marry(2, 3) = 1
            told(1|3, 6) = 2
            """);
    }

    private static void marry() {
        script.run("3 'BAD: also one who is no MAN, no WOMAN'", """
            text "m,w,m,w"
            family() = 4
            marry(1|3, 1|3) = BAD
            marry(0|2, 0|2) = BAD
            marry(1|3, 0|2) = BAD
            told(0|1|2|3, 4) = 12
            """);
        script.run("3 BAD: a number that names nobody", """
            text "m,w"
            family() = 2
            marry(-1|2|11|12|13|MAX|MIN, 1) = BAD
            marry(0, -1|2|11|12|13|MAX|MIN) = BAD
            told(0|1, 4) = 12
            marry(0, 1) = 1
            """);
        script.run("3 the first and the last of twelve", """
            text "m,m,m,m,m,m,m,m,m,m,m,w"
            family() = 12
            marry(0, 11) = 1
            told(0, 4) = 11
            told(11, 4) = 0
            text "w,m,m,m,m,m,m,m,m,m,m,m"
            family() = 12
            marry(11, 0) = 1
            told(0, 4) = 11
            told(11, 4) = 0
            """);
        script.run("3 BAD ahead of NOT", """
            text "m,w,m,w"
            family() = 4
            dies(0|1) = 0
            marry(1, 0) = BAD
            marry(0, 0|2) = BAD
            marry(1|3, 1) = BAD
            marry(0, 12) = BAD
            marry(12, 1) = BAD
            marry(0, 1) = NOT
            """);
    }

    private static void marryNot() {
        script.run("3 NOT: 'a MAN and a WOMAN who live'", """
            text "m,w,m,w"
            family() = 4
            dies(0) = 0
            marry(0, 1) = NOT
            dies(3) = 0
            marry(2, 3) = NOT
            marry(0, 3) = NOT
            told(0|1|2|3, 4) = 12
            marry(2, 1) = 1
            """);
        script.run("3 NOT: they 'have no SPOUSE'", """
            text "m,w,m,w"
            family() = 4
            marry(0, 1) = 1
            marry(0, 1) = NOT
            marry(0, 3) = NOT
            marry(2, 1) = NOT
            told(2|3, 4) = 12
            told(0, 4) = 1
            told(1, 4) = 0
            marry(2, 3) = 1
            dies(0) = 0
            marry(2, 1) = NOT
            dies(3) = 0
            marry(2, 1) = 1                     # both are without one again
            """);
        script.run("3 NOT: they 'have no FATHER alike'", """
            text "m,mfa,wfa,m,wfd"
            family() = 5
            marry(1, 2) = NOT
            dies(0) = 0
            marry(1, 2) = NOT                   # a dead one is alike, too
            marry(1, 4) = 1
            """);
        script.run("3 NOT: they 'have no MOTHER alike'", """
            text "w,moa,woa,w,wod"
            family() = 5
            marry(1, 2) = NOT
            dies(0) = 0
            marry(1, 2) = NOT
            marry(1, 4) = 1
            """);
        script.run("3 who is unknown is not alike", """
            text "m,w,mob,wfa,mfa,wob"
            family() = 6
            marry(2, 3) = 1                     # his FATHER, her MOTHER are unknown
            marry(4, 5) = 1
            text "m,w"
            family() = 2
            marry(0, 1) = 1
            """);
        script.run("3 NOT: 'none is the other's FATHER'", """
            text "m,wfa"
            family() = 2
            marry(0, 1) = NOT
            text "m,w"
            family() = 2
            adopt(1, 0) = 12
            marry(0, 1) = NOT                   # by adoption, too
            """);
        script.run("3 NOT: 'none is the other's MOTHER'", """
            text "w,moa"
            family() = 2
            marry(1, 0) = NOT
            """);
        script.run("3 farther kin can be", """
            text "m,wsa,mfaob,wfaob,wfc,mod"
            family() = 6
            marry(2, 4) = NOT
            marry(5, 3) = NOT
            marry(5, 4) = 1                     # cousins
            dies(1) = 0
            dies(4) = 0
            person(1, 2, 12) = 6
            marry(0, 6) = 1                     # a grandfather
            """);
    }

    private static void adopt() {
        script.run("4 'who the FATHER was': 12 if none", """
            text "m,m,m,mfa"
            family() = 4
            adopt(2, 0) = 12
            adopt(2, 1) = 0
            adopt(2, 1) = 1                     # once more by the same
            adopt(3, 2) = 0
            told(2, 2) = 1
            told(3, 2) = 2
            told(3, 6) = 1
            """);
        script.run("4 the nearest and the farthest of lesser numbers", """
            text "m,m,m,m,m,m,m,m,m,m,m,w"
            family() = 12
            adopt(11, 10) = 12
            adopt(11, 0) = 10
            adopt(1, 0) = 12
            """);
        script.run("4 'BAD: also a WOMAN'", """
            text "w,m,w,m"
            family() = 4
            adopt(1|3, 0) = BAD
            adopt(3, 2) = BAD
            told(1|3, 2) = 12
            adopt(3, 1) = 12
            """);
        script.run("4 'BAD: one of a greater number'", """
            text "m,m,m"
            family() = 3
            adopt(0, 1|2) = BAD
            adopt(1, 2) = BAD
            told(0|1, 2) = 12
            """);
        script.run("4 'BAD: oneself'", """
            text "m,m"
            family() = 2
            adopt(0, 0) = BAD
            adopt(1, 1) = BAD
            told(0|1, 2) = 12
            """);
        script.run("4 BAD: a number that names nobody, 12 too", """
            text "m,mfa,m"
            family() = 3
            adopt(-1|3|12|13|MAX|MIN, 0) = BAD
            adopt(1|2, -1|3|12|13|MAX|MIN) = BAD
            told(1, 2) = 0
            told(2, 2) = 12
            """);
        script.run("4 'NOT: one is dead'", """
            text "m,m,mfa"
            family() = 3
            dies(1) = 0
            adopt(2, 1) = NOT
            adopt(1, 0) = NOT
            told(2, 2) = 0
            told(1, 2) = 12
            dies(2) = 0
            adopt(2, 1) = NOT                   # both are
            adopt(2, 0) = NOT
            told(2, 2) = 0
            """);
        script.run("4 BAD ahead of NOT", """
            text "w,m,m,m"
            family() = 4
            dies(0|1|2) = 0
            adopt(2, 0|2|3|12|-1) = BAD
            adopt(4|12|-1, 1) = BAD
            adopt(1, 2) = BAD
            adopt(2, 1) = NOT
            """);
    }

    private static void god() {
        script.run("5 'GODCHILD of one (12: none): who it was'", """
            text "m,w"
            family() = 2
            god(0, 12) = 12
            god(0, 1) = 12
            god(0, 1) = 1
            god(0, 12) = 1
            told(0, 5) = 12
            """);
        script.run("5 the first and the last of twelve", """
            text "m,m,m,m,m,m,m,m,m,m,m,w"
            family() = 12
            god(0, 11) = 12
            god(11, 0) = 12
            told(0, 5) = 11
            told(11, 5) = 0
            kin(0, 5) = {11}
            kin(11, 5) = {0}
            """);
        script.run("5 'BAD: also oneself'", """
            text "m,m,m,m,m,m,m,m,m,m,m,w"
            family() = 12
            god(0, 0) = BAD
            god(11, 11) = BAD
            told(0|11, 5) = 12
            """);
        script.run("5 BAD: a number that names nobody", """
            text "m,w"
            family() = 2
            god(0, 1) = 12
            god(0, -1|2|11|13|14|MAX|MIN) = BAD
            god(-1|2|11|12|13|MAX|MIN, 0|12) = BAD
            god(12, 12) = BAD
            told(0, 5) = 1
            told(1, 5) = 12
            """);
    }

    private static void told() {
        script.run("6 BAD: what is below 0 or above 6", """
            person(0, 12, 12) = 0
            told(0, -1|7|8|12|MAX|MIN) = BAD
            told(0, 0) = 0
            told(0, 6) = 0
            """);
        script.run("6 BAD: a number that names nobody", """
            text "m,w"
            family() = 2
            told(-1|2|11|12|13|MAX|MIN, 0|1|2|3|4|5|6) = BAD
            told(0, 0) = 0
            told(1, 0) = 1
            """);
        script.run("6 'whether LIVING (1, 0)'", """
            text "m,w"
            family() = 2
            told(0|1, 1) = 1
            dies(0) = 0
            told(0, 1) = 0
            told(1, 1) = 1
            """);
        script.run("6 '12: none'", """
            text "m"
            family() = 1
            told(0, 2|3|4|5) = 12
            """);
        script.run("6 the last of twelve", """
            text "m,w,m,m,m,m,m,m,m,m,m,wfaobsl"
            family() = fault 28                 # oneself is not told ahead
            text "m,w,m,m,m,m,m,m,m,m,m,wfaobsk"
            family() = 12
            god(11, 10) = 12
            told(11, 0) = 1
            told(11, 1) = 1
            told(11, 2) = 0
            told(11, 3) = 1
            told(11, 4) = 10
            told(11, 5) = 10
            told(11, 6) = 10
            """);
    }

    private static void kin() {
        script.run("7 BAD: a RELATION below 0 or above 5, nobody", """
            text "m,wfa"
            family() = 2
            kin(0, -1|6|7|8|MAX|MIN) = BAD
            kin(-1|2|11|12|13|MAX|MIN, 0|1|2|3|4|5) = BAD
            kin(0, 1) = {1}
            """);
        script.run("7 'a set of those who live': SON, DAUGHTER", """
            text "m,w,mfa,mob,wfa,wob,mfaob,wfaob"
            family() = 8
            kin(0, 0) = {2 6}
            kin(1, 0) = {3 6}
            kin(0, 1) = {4 7}
            kin(1, 1) = {5 7}
            dies(2|5) = 0
            kin(0, 0) = {6}
            kin(1, 1) = {7}
            dies(6|7|3|4) = 0
            kin(0|1, 0|1) = {}
            """);
        script.run("7 all eleven others are of one RELATION", """
            text "m,mfa,mfa,mfa,mfa,mfa,mfa,mfa,mfa,mfa,mfa,mfa"
            family() = 12
            kin(0, 0) = {1 2 3 4 5 6 7 8 9 10 11}
            kin(11, 2) = {1 2 3 4 5 6 7 8 9 10}
            text "m,wfa,wfa,wfa,wfa,wfa,wfa,wfa,wfa,wfa,wfa,wfa"
            family() = 12
            kin(0, 1) = {1 2 3 4 5 6 7 8 9 10 11}
            kin(1, 2) = {2 3 4 5 6 7 8 9 10 11}
            """);
        script.run("7 SIBLING 'who has the same FATHER or the same MOTHER, dead or not'", """
            text "m,w,mfa,wob,mfaob,m"
            family() = 6
            kin(4, 2) = {2 3}
            kin(2, 2) = {4}                     # 3 has neither alike
            kin(3, 2) = {4}
            dies(0|1) = 0
            kin(4, 2) = {2 3}
            kin(5, 2) = {}                      # who is unknown is not the same
            kin(0|1, 2) = {}
            dies(2) = 0
            kin(4, 2) = {3}                     # of the siblings those who live
            kin(2, 2) = {4}                     # of a dead one, too
            """);
        script.run("7 SPOUSE and GODCHILD, while they live", """
            text "m,wsa,m"
            family() = 3
            god(0, 2) = 12
            kin(0, 4) = {1}
            kin(1, 4) = {0}
            kin(0, 5) = {2}
            kin(2, 4|5) = {}
            dies(2) = 0
            kin(0, 5) = {}
            told(0, 5) = 2
            dies(0) = 0
            kin(1, 4) = {}                      # has none any more
            kin(0, 4) = {1}                     # is told still
            dies(1) = 0
            kin(0, 4) = {}
            """);
    }

    private static void cousins() {
        script.run("7 COUSIN by each of FATHER, MOTHER on both sides", """
            text "m,mfa,wfa,mfb,mfb,woc,moc"
            family() = 7
            kin(3|4, 3) = {5 6}
            kin(5|6, 3) = {3 4}
            kin(0|1|2, 3) = {}
            """);
        script.run("7 COUSIN: a SIBLING 'living or not' between; the COUSIN lives", """
            text "m,mfa,mfa,mfb,mfc,mfc"
            family() = 6
            dies(0|1|2) = 0
            kin(3, 3) = {4 5}
            kin(4|5, 3) = {3}
            dies(4) = 0
            kin(3, 3) = {5}
            kin(4, 3) = {3}
            dies(5) = 0
            kin(3, 3) = {}
            """);
        script.run("7 COUSIN: 'not oneself'", """
            text "m,mfa,wfa,mfboc"
            family() = 4
            kin(3, 3) = {}                      # whose FATHER is the MOTHER's brother
            """);
        script.run("7 COUSIN: 'no SIBLING'", """
            text "m,mfa,wfa,mfboc,mfb,moc,wfboc"
            family() = 7
            kin(3, 2) = {4 5 6}
            kin(3, 3) = {}
            kin(4, 2) = {3 6}
            kin(4, 3) = {5}                     # the aunt's alone
            """);
        script.run("7 COUSIN of the first and the last of twelve", """
            text "m,mfa,mfa,mfb,m,m,m,m,m,m,m,wfc"
            family() = 12
            kin(3, 3) = {11}
            kin(11, 3) = {3}
            """);
        script.run("7 COUSIN: of half siblings, too; by adoption, too", """
            text "m,w,mfa,mfaob,wob,mfc,mfd,moe,m"
            family() = 9
            kin(5, 3) = {6}
            kin(6, 3) = {5 7}
            kin(7, 3) = {6}
            adopt(8, 2) = 12
            kin(8, 3) = {6}
            adopt(8, 3) = 2
            kin(8, 3) = {5 7}
            """);
    }

    /** Refused calls count, too: every other one is. */
    private static void longestRun() {
        KinGoods x = new KinGoods();
        int was = 1;
        for (int i = 1; i <= 510; i += 2) {
            script.same("'at most 512 calls': call " + i, x.told(0, 0), -1);
            script.same("'at most 512 calls': call " + (i + 1), x.seed(i), was);
            was = i;
        }
        script.same("'at most 512 calls': call 511", x.person(1, 12, 12), 0);
        script.same("'at most 512 calls': call 512", x.told(0, 0), 1);
    }
}
