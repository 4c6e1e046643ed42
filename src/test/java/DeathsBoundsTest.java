/** The edges that the document names of deaths: promises 16 to 19 and section 2, a run for each of its sentences. */
public final class DeathsBoundsTest {
    private static final Script script = new Script();

    public static void main(String[] args) {
        diesRefused();
        held();
        owed();
        ends();
        spouse();
        lastOfTwelve();
        gathers();
        gathersRefused();
        balance();
        paid();
        script.end();
    }

    private static void diesRefused() {
        script.run("16 BAD: nobody", """
            text "m,w"
            family() = 2
            dies(-1|2|11|12|13|MAX|MIN) = BAD
            count(1) = 2
            """);
        script.run("16 'NOT: dead already'", """
            text "m,mfa"
            family() = 2
            thing(0, 5, 0, 12) = 0
            dies(0) = 1
            dies(0) = NOT
            dies(0) = NOT
            of(0, 2) = 1
            count(1) = 1
            dies(1) = 1
            dies(0|1) = NOT
            """);
        script.run("16 'how many THINGS that one HELD': none, one, twelve", """
            text "m,w"
            family() = 2
            thing(0, 1, 0, 12) = 0
            thing(1, 1, 0, 1) = 1
            thing(2, 1, 0, 1) = 2
            thing(3, 1, 0, 12) = 3
            thing(0, 1, 0, 12) = 4
            thing(0, 1, 0, 12) = 5
            thing(0, 1, 0, 12) = 6
            thing(0, 1, 0, 12) = 7
            thing(0, 1, 0, 12) = 8
            thing(0, 1, 0, 12) = 9
            thing(0, 1, 0, 12) = 10
            thing(0, 1, 0, 12) = 11
            image() = 1
            dies(1) = 0                 # OTHER of two is not HOLDER
            dies(0) = 10                # two have LAPSED
            restore() = 1
            dies(0) = 12
            """);
    }

    private static void held() {
        script.run("16 each 'goes to the HEIR by the RULE of its KIND'", """
            text "m,mfa,mfa,wfb,mfb,mfc,m"
            family() = 7
            rule(1, 2, 1) = 1           # a debt to a sibling
            god(4, 6) = 12
            person(0, 4, 12) = 7
            thing(0, 1, 4, 12) = 0
            thing(1, 2, 4, 0) = 1
            thing(2, 3, 4, 0) = 2
            thing(3, 4, 4, 12) = 3
            dies(4) = 4
            of(0, 2) = 7
            of(1, 2) = 3
            of(2, 2) = 5
            of(3, 2) = 6
            of(1|2, 3) = 0
            """);
        script.run("16 'or LAPSES', of each KIND", """
            text "m,w"
            family() = 2
            thing(0, 1, 0, 12) = 0
            thing(1, 2, 0, 1) = 1
            thing(2, 3, 0, 1) = 2
            thing(3, 4, 0, 12) = 3
            dies(0) = 4
            of(0|1|2|3, 2) = 12
            of(0|1|2|3, 3) = 12
            count(4) = 4
            dies(1) = 0
            count(4) = 4
            of(0|1|2|3, 2) = 12
            """);
        script.run("16 an HEIR is one who lives: a dead one is passed over", """
            text "m,mfa,mfa,mfb"
            family() = 4
            thing(0, 1, 0, 12) = 0
            dies(1) = 0
            dies(0) = 1
            of(0, 2) = 2                # not the dead son's son
            """);
    }

    private static void owed() {
        script.run("16 'OTHER becomes the HEIR by the RULE of LAND (of a DEBT)'", """
            text "m,mfa,wfa,m"
            family() = 4
            rule(2, 1, 1) = 3
            thing(1, 5, 3, 0) = 0
            dies(0) = 0
            of(0, 2) = 3
            of(0, 3) = 1
            """);
        script.run("16 OTHER becomes the HEIR by the RULE 'of QUARREL (of a QUARREL)'", """
            text "m,mfa,wfa,m"
            family() = 4
            rule(2, 1, 1) = 3
            thing(2, 5, 3, 0) = 0
            dies(0) = 0
            of(0, 2) = 3
            of(0, 3) = 2
            """);
        script.run("16 'or it LAPSES': there is no such HEIR", """
            text "m,wfa,m"
            family() = 3
            god(0, 1) = 12
            thing(1, 5, 2, 0) = 0       # a daughter is no HEIR of land
            thing(2, 5, 2, 0) = 1       # nor of a quarrel
            dies(0) = 0
            of(0|1, 2) = 12
            of(0|1, 3) = 12
            """);
        script.run("16 the HOLDER is left as it was, what others have among them, too", """
            text "m,mfa,m,m"
            family() = 4
            thing(1, 5, 2, 0) = 0
            thing(1, 6, 2, 3) = 1
            thing(2, 7, 3, 2) = 2
            dies(0) = 0
            of(0, 2) = 2
            of(0, 3) = 1
            of(1, 2) = 2
            of(1, 3) = 3
            of(2, 2) = 3
            of(2, 3) = 2
            """);
    }

    private static void ends() {
        script.run("16 'each DEBT, QUARREL whose HOLDER is its OTHER has ENDED': the HOLDER dies", """
            text "m,mfa,mfa,mfb,mfc,wfd"
            family() = 6
            thing(1, 5, 3, 5) = 0       # to the daughter, who is owed it
            thing(2, 6, 3, 4) = 1       # to the cousin, who is the other
            dies(3) = 2
            of(0|1, 2) = 13
            of(0|1, 3) = 12
            count(5) = 2
            """);
        script.run("16 ENDED: the OTHER dies", """
            text "m,mfa,mfa,mfb,mfc,mfd"
            family() = 6
            thing(1, 5, 5, 3) = 0       # the son owes his father
            thing(2, 6, 4, 3) = 1       # the cousin has a quarrel with the cousin
            dies(3) = 0
            of(0|1, 2) = 13
            of(0|1, 3) = 12
            """);
        script.run("16 what ENDED, LAPSED stays so through later deaths", """
            text "m,wfa,mfa"
            family() = 3
            thing(1, 5, 0, 1) = 0
            thing(3, 5, 0, 12) = 1
            dies(0) = 2
            dies(1) = 0
            dies(2) = 0
            of(0, 2) = 13
            of(1, 2) = 12
            of(0|1, 3) = 12
            count(4|5) = 1
            """);
        script.run("16 one LAPSES ahead of ending: without an HEIR nothing ends", """
            text "m,m"
            family() = 2
            thing(1, 5, 0, 1) = 0
            thing(1, 5, 1, 0) = 1
            dies(0) = 1
            of(0|1, 2) = 12
            """);
    }

    private static void spouse() {
        script.run("16 'Behind that who was the SPOUSE has none': ahead of it one inherits", """
            text "m,wsa"
            family() = 2
            rule(0, 4, 1) = 0
            rule(1, 4, 1) = 1
            rule(2, 4, 1) = 3
            rule(3, 4, 1) = 5
            thing(0, 1, 0, 12) = 0
            thing(3, 1, 0, 12) = 1
            thing(1, 1, 0, 1) = 2
            thing(2, 1, 1, 0) = 3
            dies(0) = 3
            of(0|1, 2) = 1
            of(2|3, 2) = 13             # the widow is both sides
            told(1, 4) = 12
            """);
        script.run("16 'of the dead one that SPOUSE is told still', also behind the other's death", """
            text "m,wsa,m"
            family() = 3
            dies(1) = 0
            told(1, 4) = 0
            told(0, 4) = 12
            dies(0) = 0
            told(1, 4) = 0
            told(0, 4) = 12             # who has none dies without one
            """);
        script.run("16 a second marriage leaves the first dead one's told", """
            text "m,wsa,m"
            family() = 3
            dies(0) = 0
            marry(2, 1) = 1
            dies(1) = 0
            told(0, 4) = 1
            told(1, 4) = 2
            told(2, 4) = 12
            """);
        script.run("16 the dead one is no HEIR, no FATHER's loss: relations stay", """
            text "m,wsa,mfaob"
            family() = 3
            dies(0|1) = 0
            told(2, 2) = 0
            told(2, 3) = 1
            told(2, 6) = 0
            """);
    }

    private static void lastOfTwelve() {
        script.run("16 the last of twelve is HEIR, HOLDER, OTHER", """
            text "m,m,m,m,m,m,m,m,m,m,m,mfa"
            family() = 12
            thing(0, 1, 0, 12) = 0
            thing(1, 2, 1, 0) = 1
            thing(1, 3, 11, 0) = 2
            dies(0) = 1
            of(0, 2) = 11
            of(1, 3) = 11
            of(2, 2) = 13
            dies(11) = 1
            of(0|1, 2) = 12
            told(11, 1) = 0
            """);
        script.run("16 the twelfth thing goes as the first", """
            text "m,mfa,wfa,m"
            family() = 4
            thing(0, 1, 3, 12) = 0
            thing(0, 1, 3, 12) = 1
            thing(0, 1, 3, 12) = 2
            thing(0, 1, 3, 12) = 3
            thing(0, 1, 3, 12) = 4
            thing(0, 1, 3, 12) = 5
            thing(0, 1, 3, 12) = 6
            thing(0, 1, 3, 12) = 7
            thing(0, 1, 0, 12) = 8
            thing(1, 1, 3, 0) = 9
            thing(1, 1, 1, 0) = 10
            thing(1, 1, 0, 3) = 11
            dies(0) = 2
            of(8, 2) = 1
            of(9, 3) = 1
            of(10, 2) = 13
            of(11, 2) = 2
            of(11, 3) = 3
            count(3) = 11
            """);
    }

    private static void gathers() {
        script.run("17 'THINGS of just a KIND'", """
            text "m,w"
            family() = 2
            thing(0, 1, 0, 12) = 0
            thing(1, 2, 0, 1) = 1
            thing(2, 4, 0, 1) = 2
            thing(3, 8, 0, 12) = 3
            thing(0, 16, 0, 12) = 4
            gathers(0, 0) = 17
            gathers(0, 1) = 2
            gathers(0, 2) = 4
            gathers(0, 3) = 8
            gathers(1, 0|1|2|3) = 0
            """);
        script.run("17 'that are HELD': not what LAPSED, ENDED", """
            text "m,wfa,mfa"
            family() = 3
            thing(0, 1, 2, 12) = 0
            thing(1, 2, 0, 1) = 1
            thing(3, 4, 0, 12) = 2
            gathers(0, 0) = 1
            gathers(0, 1) = 2
            gathers(0, 3) = 4
            dies(0) = 2
            gathers(0, 0) = 1
            gathers(0, 1|3) = 0
            dies(2) = 1
            gathers(0, 0) = 0
            """);
        script.run("17 'by PEOPLE of a HOUSE', whose first one may be dead", """
            text "m,mfa,wfb,m"
            family() = 4
            thing(0, 1, 1, 12) = 0
            thing(0, 2, 2, 12) = 1
            thing(0, 4, 3, 12) = 2
            dies(0) = 0
            gathers(0, 0) = 3
            gathers(3, 0) = 4
            gathers(1|2, 0) = 0
            marry(3, 2) = 1
            gathers(0, 0) = 1
            gathers(3, 0) = 6
            """);
        script.run("17 the last of twelve houses", """
            text "m,m,m,m,m,m,m,m,m,m,m,w"
            family() = 12
            thing(0, 7, 11, 12) = 0
            gathers(11, 0) = 7
            gathers(10, 0) = 0
            marry(0, 11) = 1
            gathers(11, 0) = 0
            gathers(0, 0) = 7
            """);
    }

    private static void gathersRefused() {
        script.run("17 'a HOUSE (0 .. 11)': BAD below and above, not of nobody's", """
            gathers(0|1|11, 0|1|2|3) = 0
            gathers(-1|12|13|MAX|MIN, 0|1|2|3) = BAD
            """);
        script.run("17 BAD: no KIND", """
            gathers(0|11, -1|4|5|12|MAX|MIN) = BAD
            """);
    }

    private static void balance() {
        script.run("18 'BAD less 100000000'", """
            balance(0|-1|11|12|MAX|MIN) = -100000001
            text "m,w"
            family() = 2
            balance(0|1) = 0
            balance(2|-1|11|12|MAX|MIN) = -100000001
            """);
        script.run("18 a BALANCE of -1 is no refusal", """
            text "m,w"
            family() = 2
            thing(1, 1, 0, 1) = 0
            balance(0) = -1
            balance(1) = 1
            """);
        script.run("18 the least and the greatest: twelve DEBTS of 99", """
            text "m,m,m,m,m,m,m,m,m,m,m,w"
            family() = 12
            thing(1, 99, 0, 11) = 0
            thing(1, 99, 0, 11) = 1
            thing(1, 99, 0, 11) = 2
            thing(1, 99, 0, 11) = 3
            thing(1, 99, 0, 11) = 4
            thing(1, 99, 0, 11) = 5
            thing(1, 99, 0, 11) = 6
            thing(1, 99, 0, 11) = 7
            thing(1, 99, 0, 11) = 8
            thing(1, 99, 0, 11) = 9
            thing(1, 99, 0, 11) = 10
            thing(1, 99, 0, 11) = 11
            balance(0) = -1188
            balance(11) = 1188
            balance(1) = 0
            paid() = 1188
            """);
        script.run("18 DEBTS alone, HELD alone", """
            text "m,wfa,m"
            family() = 3
            thing(2, 50, 0, 1) = 0
            thing(0, 50, 0, 12) = 1
            thing(3, 50, 0, 12) = 2
            balance(0|1|2) = 0
            thing(1, 5, 0, 1) = 3
            thing(1, 7, 2, 0) = 4
            balance(0) = 2
            balance(1) = 5
            balance(2) = -7
            dies(0) = 4                 # one ends, one lapses
            balance(0|1|2) = 0
            """);
    }

    private static void paid() {
        script.run("19 'what must change hands at least': nothing", """
            paid() = 0
            text "m,w"
            family() = 2
            thing(1, 50, 0, 1) = 0
            thing(1, 50, 1, 0) = 1
            paid() = 0
            thing(1, 0, 0, 1) = 2
            paid() = 0
            """);
        script.run("19 at least: through a row, round a ring, one to many, many to one", """
            text "m,m,m,m"
            family() = 4
            thing(1, 9, 0, 1) = 0
            thing(1, 9, 1, 2) = 1
            thing(1, 9, 2, 3) = 2
            paid() = 9
            thing(1, 9, 3, 0) = 3
            paid() = 0
            thing(1, 1, 0, 1) = 4
            thing(1, 2, 0, 2) = 5
            thing(1, 4, 0, 3) = 6
            paid() = 7
            thing(1, 8, 2, 1) = 7
            thing(1, 16, 3, 1) = 8
            paid() = 25                 # -7, 25, -6, -12
            """);
        script.run("19 what LAPSED, ENDED is owed to nobody, of twelve, too", """
            text "m,wfa,m,m,m,m,m,m,m,m,m,m"
            family() = 12
            thing(1, 5, 0, 1) = 0
            thing(1, 7, 2, 3) = 1
            paid() = 12
            dies(0) = 1
            paid() = 7
            dies(2) = 1
            paid() = 0
            """);
        script.run("19 the first and the last of twelve", """
            text "m,m,m,m,m,m,m,m,m,m,m,w"
            family() = 12
            thing(1, 3, 0, 11) = 0
            paid() = 3
            thing(1, 5, 11, 0) = 1
            paid() = 2
            """);
    }
}
