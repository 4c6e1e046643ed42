/** The edges that the document names of wed: promise 27 and section 3's WED, a run for each of its sentences. */
public final class WedBoundsTest {
    private static final Script script = new Script();

    public static void main(String[] args) {
        bad();
        machine();
        not();
        none();
        fewest();
        first();
        lastOfTwelve();
        now();
        then();
        debts();
        rowOfEight();
        script.end();
    }

    private static void bad() {
        script.run("27 BAD: a THING that is not, no HOUSE, ahead of NULL", """
            text "m,w"
            family() = 2
            wed(0, 0, 0, 0, 0, 1, -1) = BAD
            thing(0, 5, 0, 12) = 0
            wed(-1|1|11|12|MAX|MIN, 0, 0, 0, 0, 1, -1) = BAD
            wed(0, -1|12|13|MAX|MIN, 0, 0, 0, 1, -1) = BAD
            wed(0, 0|11, 0, 0, 0, 1, -1) = NULL
            """);
        script.run("27 BAD: no SHEET, no LANE, ahead of NULL", """
            text "m,w"
            family() = 2
            thing(0, 5, 0, 12) = 0
            wed(0, 0, -1|4|MAX|MIN, 0, 0, 1, -1) = BAD
            wed(0, 0, 0, -1|3|MAX|MIN, 0, 1, -1) = BAD
            wed(0, 0, 0|3, 0|1|2, 0, 1, -1) = NULL
            """);
        script.run("27 BAD: a row of none, of more than 8, ahead of NULL, CAST, INDEX", """
            text "m,w"
            family() = 2
            thing(0, 5, 0, 12) = 0
            wed(0, 0, 0, 0, 0, 0|-1|9|10|MAX|MIN, -1) = BAD
            sheet(0, 0, 24) = 24
            wed(0, 0, 0, 0|1, 0|-1|24, 0|-1|9|10|MAX|MIN, -1) = BAD
            item(0, 0, 0, 1) = 1
            wed(0, 0, 0, 0, 0, 1, -1) = 0
            """);
        script.run("27 BAD: 'how many (-1), the i-th (0 .. 3)', below and above, ahead of NULL, NOT, NONE", """
            text "m,w"
            family() = 2
            thing(0, 5, 0, 12) = 0
            wed(0, 0, 0, 0, 0, 1, -2|4|5|MAX|MIN) = BAD
            sheet(0, 0, 2) = 2
            wed(0, 0|1|11, 0, 0|1, 0|5, 1|2, -2|4|5|MAX|MIN) = BAD
            """);
    }

    private static void machine() {
        script.run("27 NULL, CAST, INDEX in this order, ahead of NOT", """
            text "m,w"
            family() = 2
            thing(0, 5, 0, 12) = 0
            sheet(1, 1, 2) = 2
            wed(0, 0, 0|2|3, 0|1|2, 0|-1|9, 1, -1|0|3) = NULL
            wed(0, 0, 1, 0|2, 0|-1|9, 1|2, -1|0|3) = CAST
            wed(0, 0, 1, 1, -1|2|3|MAX|MIN, 1, -1|0|3) = INDEX
            wed(0, 0, 1, 1, 0, 3|8, -1|0|3) = INDEX     # though the second dies twice
            wed(0, 0, 1, 1, 1|-1|2147483646, 2, -1) = INDEX
            wed(0, 0, 1, 1, 0, 2, -1|0|3) = NOT
            """);
    }

    private static void not() {
        script.run("27 'NOT: the row can't be': dead, twice, nobody", """
            text "m,w,m"
            family() = 3
            thing(0, 5, 0, 12) = 0
            sheet(0, 2, 2) = 2
            item(0, 2, 0|1, 2) = 1
            wed(0, 0, 0, 2, 0|1, 1, -1) = 0
            wed(0, 0, 0, 2, 0, 2, -1|0|3) = NOT         # 2 twice
            item(0, 2, 1, 3) = 1
            wed(0, 0, 0, 2, 0, 2, -1|0|3) = NOT
            item(0, 2, 1, -1) = 1
            wed(0, 0, 0, 2, 0, 2, -1|0|3) = NOT
            item(0, 2, 1, -31) = 1
            wed(0, 0, 0, 2, 0, 2, -1|0|3) = NOT
            dies(2) = 0
            wed(0, 0, 0, 2, 0, 1, -1|0|3) = NOT
            """);
        script.run("27 'NOT: or it is by no two'", """
            text "m,m,m,m"
            family() = 4
            thing(0, 5, 0, 12) = 0
            sheet(0, 0, 1) = 1
            item(0, 0, 0, 3) = 1
            wed(0, 0, 0, 0, 0, 1, -1) = 0
            wed(0, 1|2|3|4|11, 0, 0, 0, 1, -1|0|1|2|3) = NOT
            """);
        script.run("27 NOT: three marriages are too many", """
            text "m,m,wfb,wfb,m,mfe,wfe,mod"
            family() = 8
            rule(0, 20, 2) = 0          # SPOUSE, SIBLING
            thing(0, 5, 0, 12) = 0
            sheet(0, 0, 4) = 4          # 0 2 3 5: to the wife 2, her sister 3, her husband 5, his sister 6
            item(0, 0, 1, 2) = 1
            item(0, 0, 2, 3) = 1
            item(0, 0, 3, 5) = 1
            wed(0, 7, 0, 0, 0, 4, -1|0|1|2|3) = NOT
            marry(0, 2) = 1
            wed(0, 7, 0, 0, 0, 4, -1) = 2
            wed(0, 7, 0, 0, 0, 4, 0) = 5
            wed(0, 7, 0, 0, 0, 4, 1) = 3
            wed(0, 7, 0, 0, 0, 4, 2) = 7
            wed(0, 7, 0, 0, 0, 4, 3) = 6
            marry(5, 3) = 1
            wed(0, 7, 0, 0, 0, 4, -1) = 1
            wed(0, 7, 0, 0, 0, 4, 0) = 7
            marry(7, 6) = 1
            wed(0, 7, 0, 0, 0, 4, -1) = 0
            """);
    }

    private static void none() {
        script.run("27 'NONE: there is no i-th'", """
            text "m,m,wfb,wfb,m,w"
            family() = 6
            rule(0, 20, 2) = 0          # SPOUSE, SIBLING
            thing(0, 5, 0, 12) = 0
            thing(0, 5, 1, 12) = 1
            sheet(0, 0, 2) = 2          # 0 2
            item(0, 0, 1, 2) = 1
            wed(1, 1, 0, 0, 0, 2, -1) = 0
            wed(1, 1, 0, 0, 0, 2, 0|1|2|3) = NONE
            wed(0, 1, 0, 0, 0, 2, -1) = 1
            wed(0, 1, 0, 0, 0, 2, 0) = 0
            wed(0, 1, 0, 0, 0, 2, 1) = 2
            wed(0, 1, 0, 0, 0, 2, 2|3) = NONE
            wed(0, 4, 0, 0, 0, 2, -1) = 2
            wed(0, 4, 0, 0, 0, 2, 0) = 0
            wed(0, 4, 0, 0, 0, 2, 1) = 2
            wed(0, 4, 0, 0, 0, 2, 2) = 4
            wed(0, 4, 0, 0, 0, 2, 3) = 3
            """);
    }

    private static void fewest() {
        script.run("27 'the fewest MARRIAGES (0 .. 2)': none, though one would do as well", """
            text "m,wfa,mfa,w"
            family() = 4
            thing(0, 5, 2, 12) = 0
            sheet(0, 0, 1) = 1
            wed(0, 0, 0, 0, 0, 1, -1) = 0
            wed(0, 0, 0, 0, 0, 1, 0) = NONE
            """);
        script.run("27 one, though two would come first as MAN and WOMAN", """
            text "m,w,m,w,m"
            family() = 5
            thing(0, 5, 3, 12) = 0
            sheet(0, 0, 1) = 1
            item(0, 0, 0, 4) = 1
            wed(0, 2, 0, 0, 0, 1, -1) = 1
            wed(0, 2, 0, 0, 0, 1, 0) = 2        # not 0 and 1 ahead of it
            wed(0, 2, 0, 0, 0, 1, 1) = 3
            wed(0, 2, 0, 0, 0, 1, 2|3) = NONE
            """);
    }

    private static void first() {
        script.run("27 'of like ones the first as MAN'", """
            text "m,mfa,w,m,mfa"
            family() = 5
            thing(0, 5, 2, 12) = 0
            sheet(0, 0, 2) = 2
            item(0, 0, 0, 3) = 1
            wed(0, 0, 0, 0, 0, 1, 0) = 0        # not 1, not 4
            wed(0, 0, 0, 0, 1, 1, 0) = 1        # 0 dies
            wed(0, 0, 0, 0, 0|1, 1, 1) = 2
            wed(0, 0, 0, 0, 0, 2, 0) = 1
            """);
        script.run("27 'and WOMAN'", """
            text "m,m,wfb,wfb"
            family() = 4
            rule(0, 4, 1) = 0
            thing(0, 5, 0, 12) = 0
            sheet(0, 0, 1) = 1
            wed(0, 1, 0, 0, 0, 1, 0) = 0
            wed(0, 1, 0, 0, 0, 1, 1) = 2        # not 3, who is of that house, too
            """);
        script.run("27 then the second MAN, WOMAN; each row of two is told from its lesser MAN on", """
            text "m,m,mfb,wfa,wfa,m"
            family() = 6
            rule(0, 20, 2) = 0
            thing(0, 5, 5, 12) = 0
            sheet(0, 0, 2) = 2          # 5 3, then 4 has it
            item(0, 0, 0, 5) = 1
            item(0, 0, 1, 3) = 1
            wed(0, 1, 0, 0, 0, 2, -1) = 2
            wed(0, 1, 0, 0, 0, 2, 0) = 1        # not 2, whose house is 1, too
            wed(0, 1, 0, 0, 0, 2, 1) = 4
            wed(0, 1, 0, 0, 0, 2, 2) = 5
            wed(0, 1, 0, 0, 0, 2, 3) = 3
            """);
    }

    private static void lastOfTwelve() {
        script.run("27 two marriages of the last four of twelve", """
            text "m,m,m,m,m,m,m,m,m,wfa,m,wfa"
            family() = 12
            rule(0, 20, 2) = 0
            thing(0, 5, 8, 12) = 0
            sheet(0, 0, 2) = 2          # 8 9, then 11 has it
            item(0, 0, 0, 8) = 1
            item(0, 0, 1, 9) = 1
            wed(0, 10, 0, 0, 0, 2, -1) = 2
            wed(0, 10, 0, 0, 0, 2, 0) = 8
            wed(0, 10, 0, 0, 0, 2, 1) = 9
            wed(0, 10, 0, 0, 0, 2, 2) = 10
            wed(0, 10, 0, 0, 0, 2, 3) = 11
            wed(0, 11, 0, 0, 0, 2, -1) = NOT
            """);
        script.run("27 one marriage of the last MAN and the first WOMAN, of the first MAN and the last WOMAN", """
            text "w,m,m,m,m,m,m,m,m,m,m,m"
            family() = 12
            thing(0, 5, 0, 12) = 0
            sheet(0, 0, 1) = 1
            item(0, 0, 0, 1) = 1
            wed(0, 11, 0, 0, 0, 1, -1) = 1
            wed(0, 11, 0, 0, 0, 1, 0) = 11
            wed(0, 11, 0, 0, 0, 1, 1) = 0
            text "m,m,m,m,m,m,m,m,m,m,m,w"
            family() = 12
            thing(0, 5, 11, 12) = 0
            wed(0, 0, 0, 0, 0, 1, -1) = 1
            wed(0, 0, 0, 0, 0, 1, 0) = 0
            wed(0, 0, 0, 0, 0, 1, 1) = 11
            wed(0, 11, 0, 0, 0, 1, -1) = 0
            """);
    }

    private static void now() {
        script.run("27 'now': ahead of all DEATHS, so who dies may marry, who will be free may not", """
            text "m,wsa,m,w"
            family() = 4
            rule(0, 4, 1) = 0
            thing(0, 5, 1, 12) = 0
            thing(0, 5, 2, 12) = 1
            sheet(0, 0, 2) = 2          # 0 2
            item(0, 0, 1, 2) = 1
            wed(0, 2, 0, 0, 0, 1, -1) = NOT     # 1 is free behind 0's death only
            wed(0, 1, 0, 0, 0, 1, -1) = 0       # the widow's house is her own
            wed(1, 3, 0, 0, 1, 1, -1) = 1       # 2 marries, dies, and his widow has it
            wed(1, 3, 0, 0, 1, 1, 0) = 2
            wed(1, 3, 0, 0, 1, 1, 1) = 3
            """);
        script.run("27 'one behind the other': nobody marries twice", """
            text "m,w,m"
            family() = 3
            rule(0, 4, 1) = 0
            thing(0, 5, 0, 12) = 0
            sheet(0, 0, 1) = 1
            wed(0, 1, 0, 0, 0, 1, -1) = 1
            wed(0, 2, 0, 0, 0, 1, -1) = NOT     # 1 with 0, then with 2
            """);
        script.run("27 only marriages that can be: who is dead, near kin, has a SPOUSE", """
            text "m,wfa,mfa,m,m,wse,m"
            family() = 7
            adopt(6, 3) = 12
            thing(0, 5, 1, 12) = 0
            sheet(0, 0, 1) = 1
            item(0, 0, 0, 5) = 1
            wed(0, 3, 0, 0, 0, 1, 0) = 3
            wed(0, 4, 0, 0, 0, 1, -1) = NOT
            dies(3) = 0
            wed(0, 3, 0, 0, 0, 1, 0) = 6        # of that house, too
            dies(6) = 0
            wed(0, 3, 0, 0, 0, 1, -1) = NOT
            """);
    }

    private static void then() {
        script.run("27 'HELD by one of that HOUSE (as it is then)'", """
            text "m,wfa,m"
            family() = 3
            thing(0, 5, 1, 12) = 0
            sheet(0, 0, 2) = 2
            item(0, 0, 0, 2) = 1
            marry(2, 1) = 1
            wed(0, 0, 0, 0, 0, 1, -1) = 0       # the widow is of her father's house
            wed(0, 2, 0, 0, 0, 1, -1) = NOT
            wed(0, 2, 0, 0, 1, 1, -1) = 0       # her father's death leaves her in her husband's
            wed(0, 0, 0, 0, 1, 1, -1) = NOT
            wed(0, 0, 0, 0, 0, 2, -1) = 0       # a dead father's house is a house
            """);
        script.run("27 what LAPSED, ENDED is HELD by nobody, by then or already", """
            text "m,wfa"
            family() = 2
            thing(0, 5, 0, 12) = 0
            thing(1, 5, 0, 1) = 1
            sheet(0, 0, 1) = 1
            wed(0|1, 0|1|11, 0, 0, 0, 1, -1) = NOT
            dies(0) = 2
            item(0, 0, 0, 1) = 1
            wed(0|1, 0|1|11, 0, 0, 0, 1, -1) = NOT
            """);
        script.run("27 nothing is changed by it", """
            text "m,m,wfb,wfb,m,w"
            family() = 6
            rule(0, 20, 2) = 0
            thing(0, 5, 0, 12) = 0
            sheet(0, 0, 2) = 2
            item(0, 0, 1, 2) = 1
            wed(0, 4, 0, 0, 0, 2, -1) = 2
            told(0|1|2|3|4|5, 4) = 12
            told(0|1|2|3|4|5, 1) = 1
            of(0, 2) = 0
            wed(0, 4, 0, 0, 0, 2, -1) = 2
            judged(0, 0, 0, 2) = NONE
            """);
    }

    private static void debts() {
        script.run("27 a marriage may keep a DEBT from lapsing, or end it", """
            text "m,w"
            family() = 2
            rule(0, 4, 1) = 0
            thing(1, 5, 1, 0) = 0
            sheet(0, 0, 1) = 1
            wed(0, 1, 0, 0, 0, 1, -1) = NOT     # without it none is owed to, with it she owes herself
            person(1, 12, 12) = 2
            wed(0, 1, 0, 0, 0, 1, -1) = 1
            wed(0, 1, 0, 0, 0, 1, 0) = 0
            wed(0, 1, 0, 0, 0, 1, 1) = 2
            """);
    }

    private static void rowOfEight() {
        script.run("27 a row of eight, the eighth of whom has it", """
            text "m,mfa,mfb,mfc,mfd,mfe,mff,mfg,w"
            family() = 9
            rule(0, 32, 2) = 0          # SON, SPOUSE
            thing(0, 5, 0, 12) = 0
            sheet(0, 0, 8) = 8
            item(0, 0, 1, 1) = 1
            item(0, 0, 2, 2) = 1
            item(0, 0, 3, 3) = 1
            item(0, 0, 4, 4) = 1
            item(0, 0, 5, 5) = 1
            item(0, 0, 6, 6) = 1
            item(0, 0, 7, 7) = 1
            wed(0, 0, 0, 0, 0, 7, -1) = 0
            wed(0, 0, 0, 0, 0, 8, -1) = NOT
            wed(0, 8, 0, 0, 0, 8, -1) = 1
            wed(0, 8, 0, 0, 0, 8, 0) = 7
            wed(0, 8, 0, 0, 0, 8, 1) = 8
            item(0, 0, 7, 9) = 1
            wed(0, 8, 0, 0, 0, 8, -1) = NOT
            """);
    }
}
