/** Promises 16 to 19: dies, gathers, balance, paid. */
public final class DeathsTest {
    private static final Script script = new Script();

    public static void main(String[] args) {
        dies();
        otherSide();
        ends();
        spouses();
        gathers();
        balance();
        paid();
        allTwelve();
        script.end();
    }

    private static void dies() {
        script.run("16 each by the rule of its kind", """
            text "m,mfa,wfa,m,mfa,m,mfe,mff"
            family() = 8
            god(4, 3) = 12
            thing(0, 10, 0, 12) = 0
            thing(1, 20, 0, 3) = 1
            thing(3, 30, 0, 12) = 2
            thing(2, 40, 6, 3) = 3
            god(0, 3) = 12
            dies(0) = 3
            of(0, 2) = 1                # land to the first son
            of(1, 2) = 2                # a debt to the daughter
            of(1, 3) = 3
            of(2, 2) = 3                # a joke to the godchild
            of(3, 2) = 6
            told(0, 1) = 0
            dies(1) = 1
            of(0, 2) = 12               # no son: it lapses
            dies(4) = 0
            dies(6) = 1
            of(3, 2) = 12               # no cousin
            of(3, 3) = 12
            count(4) = 2
            count(3) = 2
            """);
        script.run("16 quarrels to cousins", """
            text "m,mfa,mfa,mfb,mfc,wfc,m"
            family() = 7
            thing(2, 1, 3, 6) = 0
            thing(2, 2, 6, 4) = 1
            dies(3) = 1
            of(0, 2) = 4
            of(0, 3) = 6
            dies(4) = 1                 # no cousin lives
            of(0, 2) = 12
            of(1, 2) = 12
            """);
        script.run("16 bad, not", """
            dies(0) = BAD
            text "m,w"
            family() = 2
            dies(2) = BAD
            dies(-1) = BAD
            dies(12) = BAD
            dies(MIN) = BAD
            thing(0, 1, 0, 12) = 0
            thing(0, 1, 0, 12) = 1
            thing(0, 1, 1, 12) = 2
            dies(0) = 2
            dies(0) = NOT
            count(1) = 1
            dies(1) = 1
            dies(1) = NOT
            count(4) = 3
            """);
        script.run("16 what has lapsed stays so", """
            text "m,mfa,wfa"
            family() = 3
            thing(1, 5, 1, 0) = 0
            thing(0, 6, 2, 12) = 1
            dies(2) = 1
            of(1, 2) = 12
            dies(1) = 1
            of(0, 2) = 12
            of(0, 3) = 12
            dies(0) = 0
            of(0, 2) = 12
            of(0, 3) = 12
            of(1, 2) = 12
            """);
    }

    private static void otherSide() {
        script.run("16 the other side of a debt goes as land does", """
            text "m,wfa,mfa,m,mfd,m"
            family() = 6
            thing(1, 9, 5, 0) = 0       # owed to 0
            thing(1, 8, 5, 4) = 1
            thing(2, 7, 5, 0) = 2
            dies(0) = 0
            of(0, 2) = 5
            of(0, 3) = 2                # the son, not the daughter
            of(1, 3) = 4
            of(2, 2) = 12               # no cousin: a quarrel lapses
            of(2, 3) = 12
            rule(0, 1, 1) = 0
            thing(1, 6, 5, 3) = 3
            dies(3) = 0
            of(3, 2) = 12               # no daughter
            rule(0, 2, 1) = 1
            dies(2) = 0
            of(0, 3) = 1                # by the rule of land, as it is now
            dies(1) = 0
            of(0, 2) = 12
            """);
        script.run("16 the other side of a quarrel goes as a quarrel does", """
            text "m,mfa,mfa,mfb,mfc,m"
            family() = 6
            thing(2, 9, 5, 3) = 0
            thing(1, 9, 5, 3) = 1
            dies(3) = 0
            of(0, 2) = 5
            of(0, 3) = 4
            of(1, 2) = 12               # no son
            """);
        script.run("16 rules of kinds are apart", """
            text "m,wsa,mfaob,wfaob,m"
            family() = 5
            rule(0, 4, 1) = 0           # land to the spouse
            rule(1, 0, 1) = 1           # debts to sons
            rule(2, 1, 1) = 3           # quarrels to daughters
            thing(1, 1, 0, 4) = 0
            thing(1, 2, 4, 0) = 1
            thing(2, 3, 0, 4) = 2
            thing(2, 4, 4, 0) = 3
            thing(0, 5, 0, 12) = 4
            thing(3, 6, 0, 12) = 5
            dies(0) = 4
            of(0, 2) = 2
            of(0, 3) = 4
            of(1, 2) = 4
            of(1, 3) = 1
            of(2, 2) = 3
            of(3, 2) = 4
            of(3, 3) = 3
            of(4, 2) = 1
            of(5, 2) = 12
            """);
    }

    private static void ends() {
        script.run("16 both sides are one", """
            text "m,wfa,mfa"
            family() = 3
            thing(1, 5, 0, 1) = 0       # to the daughter, who is owed it
            thing(1, 6, 2, 0) = 1       # the son comes to be owed what he owes
            thing(1, 7, 0, 2) = 2
            thing(1, 8, 1, 0) = 3
            dies(0) = 2
            of(0, 2) = 13
            of(0, 3) = 12
            of(1, 2) = 13
            of(1, 3) = 12
            of(2, 2) = 1
            of(2, 3) = 2
            of(3, 2) = 1
            of(3, 3) = 2
            count(5) = 2
            count(3) = 2
            dies(1) = 2
            dies(2) = 0
            of(0, 2) = 13               # what has ended stays so
            of(1, 2) = 13
            of(2, 2) = 12
            """);
        script.run("16 quarrels end, too", """
            text "m,mfa,mfa,mfb,mfc"
            family() = 5
            thing(2, 5, 3, 4) = 0
            thing(2, 6, 4, 3) = 1
            dies(3) = 1
            of(0, 2) = 13
            of(1, 2) = 13
            of(0, 3) = 12
            of(1, 3) = 12
            of(1, 0) = 2
            of(1, 1) = 6
            """);
    }

    private static void spouses() {
        script.run("16 the spouse has none then, and inherits ahead of that", """
            text "m,wsa,m"
            family() = 3
            rule(0, 4, 1) = 0
            thing(0, 5, 0, 12) = 0
            dies(0) = 1
            of(0, 2) = 1
            told(1, 4) = 12
            told(0, 4) = 1
            marry(2, 1) = 1
            told(0, 4) = 1
            told(1, 4) = 2
            dies(1) = 1
            of(0, 2) = 2
            told(2, 4) = 12
            told(1, 4) = 2
            told(0, 4) = 1
            dies(2) = 1
            of(0, 2) = 12
            told(1, 4) = 2
            """);
    }

    private static void gathers() {
        script.run("17 gathers", """
            text "m,wsa,mfaob,wfaob,m"
            family() = 5
            thing(0, 10, 0, 12) = 0
            thing(0, 20, 1, 12) = 1
            thing(0, 40, 3, 12) = 2
            thing(1, 5, 2, 4) = 3
            thing(1, 6, 4, 2) = 4
            thing(3, 7, 4, 12) = 5
            gathers(0, 0) = 70
            gathers(0, 1) = 5
            gathers(0, 2) = 0
            gathers(0, 3) = 0
            gathers(4, 0) = 0           # land is just land
            gathers(4, 1) = 6
            gathers(4, 3) = 7
            gathers(1, 0) = 0           # her house is his
            marry(4, 3) = 1
            gathers(0, 0) = 30
            gathers(4, 0) = 40
            dies(0) = 1
            gathers(0, 0) = 10          # the widow has her own house, the son has the land
            gathers(1, 0) = 20
            dies(3) = 1
            gathers(4, 0) = 0           # lapsed
            gathers(11, 0) = 0          # nobody there
            gathers(12, 0) = BAD
            gathers(-1, 0) = BAD
            gathers(0, 4) = BAD
            gathers(0, -1) = BAD
            """);
    }

    private static void balance() {
        script.run("18 balance", """
            text "m,wfa,m"
            family() = 3
            thing(1, 10, 0, 1) = 0
            thing(1, 4, 1, 0) = 1
            thing(1, 3, 1, 2) = 2
            thing(2, 50, 0, 1) = 3      # no debt
            thing(0, 60, 0, 12) = 4
            balance(0) = -6
            balance(1) = 3
            balance(2) = 3
            dies(0) = 3                 # the first ends, the second lapses
            balance(0) = 0
            balance(1) = -3
            balance(2) = 3
            balance(3) = -100000001
            balance(-1) = -100000001
            balance(12) = -100000001
            """);
    }

    private static void paid() {
        script.run("19 paid", """
            text "m,m,m,m"
            family() = 4
            paid() = 0
            thing(1, 10, 0, 1) = 0
            paid() = 10
            thing(1, 10, 1, 2) = 1
            paid() = 10                 # 0 pays 2
            thing(1, 7, 2, 0) = 2
            paid() = 3
            thing(1, 9, 3, 2) = 3
            paid() = 12                 # -3, 0, 12, -9
            thing(2, 50, 3, 0) = 4
            thing(0, 50, 3, 12) = 5
            paid() = 12
            dies(3) = 3                 # no daughter
            paid() = 3
            """);
        script.run("19 what has lapsed or ended is owed to nobody", """
            text "m,wfa,m,m,m,m,m,m,m,m,m,m"
            family() = 12
            thing(1, 5, 0, 1) = 0
            thing(1, 7, 2, 3) = 1
            thing(1, 9, 4, 2) = 2
            paid() = 14                 # 5 to 1, 2 to 2, 7 to 3
            dies(0) = 1
            dies(2) = 1
            count(4) = 2
            count(5) = 1
            paid() = 0
            """);
        script.run("19 who comes first is owed", """
            text "m,m,m"
            family() = 3
            thing(1, 10, 1, 0) = 0
            thing(1, 5, 2, 0) = 1
            paid() = 15
            """);
    }

    /** With twelve people and twelve things no row has a free place left behind them. */
    private static void allTwelve() {
        script.run("16 to 19 twelve of all", """
            text "m,wsa,mfaob,wfaob,m,wse,mfeof,wfeof,mscobfa,w,m,w"
            family() = fault 38         # c is a man
            text "m,wsa,mfaob,wfaob,m,wse,mfeof,wfeof,m,w,m,w"
            family() = 12
            thing(0, 1, 0, 12) = 0
            thing(0, 2, 1, 12) = 1
            thing(1, 3, 0, 11) = 2
            thing(1, 4, 11, 0) = 3
            thing(2, 5, 0, 11) = 4
            thing(2, 6, 11, 0) = 5
            thing(3, 7, 0, 12) = 6
            thing(3, 8, 4, 12) = 7
            thing(0, 9, 4, 12) = 8
            thing(1, 10, 4, 0) = 9
            thing(1, 11, 10, 11) = 10
            thing(0, 12, 11, 12) = 11
            count(3) = 12
            count(6) = 24
            gathers(0, 0) = 3
            gathers(11, 0) = 12
            gathers(4, 1) = 10
            balance(0) = 11
            balance(11) = 10
            paid() = 21
            kin(0, 0) = {2}
            kin(5, 1) = {7}
            kin(2, 2) = {3}
            kin(2, 3) = {}
            heir(11, 0) = NONE
            told(11, 6) = 11
            orders({0 11}, 11, 12) = 2
            orders({0 4 11}, 10, 12) = 6
            image() = 1
            explained({}) = 1
            sheet(0, 0, 12) = 12
            film(0, 0, 0) = 12
            film(0, 0, 1) = INDEX
            judged(0, 0, 11, 1) = NONE
            wed(11, 10, 0, 0, 0, 1, -1) = 1
            wed(11, 10, 0, 0, 0, 1, 0) = 10
            wed(11, 10, 0, 0, 0, 1, 1) = 11
            dies(11) = 3
            of(2, 2) = 12
            of(3, 2) = 12
            of(5, 2) = 12
            of(10, 2) = 12
            of(11, 2) = 12
            explained({11}) = 1
            dies(0) = 2
            of(0, 2) = 2
            of(6, 2) = 12
            of(9, 3) = 2
            count(3) = 5
            count(4) = 7
            lots(30) = 8                # of thirty numbers so many leave 0; nobody is born
            """);
    }
}
