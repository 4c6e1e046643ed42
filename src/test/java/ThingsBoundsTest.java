/** The edges that the document names of things and rules: promises 8 to 11 and 15, a run for each of its sentences. */
public final class ThingsBoundsTest {
    private static final Script script = new Script();

    public static void main(String[] args) {
        thing();
        thingRefused();
        otherRefused();
        of();
        rule();
        everyRow();
        heir();
        heirRefused();
        count();
        script.end();
    }

    private static void thing() {
        script.run("8 'THINGS 0 .. 11, as they come'; 'FULL: 12'", """
            text "m,w"
            family() = 2
            thing(0, 1, 0, 12) = 0
            thing(1, 2, 0, 1) = 1
            thing(2, 3, 1, 0) = 2
            thing(3, 4, 1, 12) = 3
            thing(0, 5, 0, 12) = 4
            thing(0, 6, 0, 12) = 5
            thing(0, 7, 0, 12) = 6
            thing(0, 8, 0, 12) = 7
            thing(0, 9, 0, 12) = 8
            thing(0, 10, 0, 12) = 9
            thing(0, 11, 0, 12) = 10
            count(2) = 11
            thing(2, 12, 1, 0) = 11
            count(2|3) = 12
            thing(0|3, 13, 0, 12) = FULL
            thing(1|2, 13, 0, 1) = FULL
            count(2|3) = 12
            of(11, 0) = 2
            of(11, 1) = 12
            of(11, 2) = 1
            of(11, 3) = 0
            of(12, 0) = BAD
            """);
        script.run("8 what LAPSED or ENDED leaves no room", """
            text "m,wfa"
            family() = 2
            """ + lands(10, 1) + """
            thing(1, 1, 0, 1) = 10
            thing(1, 1, 0, 1) = 11
            dies(0) = 12
            count(3) = 0
            count(4) = 10
            count(5) = 2
            thing(0, 1, 1, 12) = FULL
            count(2) = 12
            """);
        script.run("8 'FULL: 12' behind BAD: of several refusals the first", """
            text "m,w,m"
            family() = 3
            dies(2) = 0
            """ + lands(12, 1) + """
            thing(-1|4, 1, 0, 12) = BAD
            thing(0, -1|100, 0, 12) = BAD
            thing(0, 1, -1|2|3|12, 12) = BAD
            thing(0|3, 1, 0, 1|2|13|-1) = BAD
            thing(1|2, 1, 0, 0|2|3|12|-1) = BAD
            thing(0, 1, 0, 12) = FULL
            """);
    }

    /** The lines that give the first of all so many lands. */
    private static String lands(int many, int worth) {
        StringBuilder lines = new StringBuilder();
        for (int t = 0; t < many; t++) {
            lines.append("thing(0, ").append(worth).append(", 0, 12) = ").append(t).append('\n');
        }
        return lines.toString();
    }

    private static void thingRefused() {
        script.run("8 a KIND is 0 .. 3", """
            text "m,w"
            family() = 2
            thing(-1|4|5|12|MAX|MIN, 1, 0, 12|1) = BAD
            count(2) = 0
            thing(0, 1, 0, 12) = 0
            thing(3, 1, 0, 12) = 1
            of(0, 0) = 0
            of(1, 0) = 3
            """);
        script.run("8 'a WORTH (0 .. 99)'", """
            text "m,w"
            family() = 2
            thing(0|3, -1|100|101|1000|MAX|MIN, 0, 12) = BAD
            thing(1|2, -1|100|101|1000|MAX|MIN, 0, 1) = BAD
            count(2) = 0
            thing(0, 0, 0, 12) = 0
            thing(1, 99, 0, 1) = 1
            of(0, 1) = 0
            of(1, 1) = 99
            """);
        script.run("8 'a HOLDER who lives': the first and the last", """
            text "m,m,m,m,m,m,m,m,m,m,m,w"
            family() = 12
            thing(0, 1, 0, 12) = 0
            thing(0, 1, 11, 12) = 1
            thing(1, 1, 0, 11) = 2
            thing(2, 1, 11, 0) = 3
            of(1|3, 2) = 11
            of(0|2, 2) = 0
            of(2, 3) = 11
            of(3, 3) = 0
            """);
        script.run("8 'BAD: also a HOLDER who is dead', or nobody", """
            text "m,w,m"
            family() = 3
            dies(2) = 0
            thing(0|3, 1, 2, 12) = BAD
            thing(1|2, 1, 2, 0) = BAD
            thing(0|3, 1, -1|3|11|12|13|MAX|MIN, 12) = BAD
            thing(1|2, 1, -1|3|11|12|13|MAX|MIN, 0) = BAD
            count(2) = 0
            """);
    }

    private static void otherRefused() {
        script.run("8 'BAD: also an OTHER who is dead', or nobody", """
            text "m,w,m"
            family() = 3
            dies(2) = 0
            thing(1|2, 1, 0, 2) = BAD
            thing(1|2, 1, 0, -1|3|11|13|MAX|MIN) = BAD
            count(2) = 0
            thing(1, 1, 0, 1) = 0
            """);
        script.run("8 a DEBT, a QUARREL 'has an OTHER': none is refused", """
            text "m,w"
            family() = 2
            thing(1|2, 1, 0, 12) = BAD
            count(2) = 0
            """);
        script.run("8 BAD: HOLDER and OTHER 'alike'", """
            text "m,w"
            family() = 2
            thing(1|2, 1, 0, 0) = BAD
            thing(1|2, 1, 1, 1) = BAD
            thing(1|2, 1, 12, 12) = BAD
            count(2) = 0
            """);
        script.run("8 'BAD: an OTHER of LAND'", """
            text "m,w"
            family() = 2
            thing(0, 1, 0, 0|1|2|11|13|-1|MAX|MIN) = BAD
            count(2) = 0
            thing(0, 1, 0, 12) = 0
            of(0, 3) = 12
            """);
        script.run("8 'BAD: an OTHER of a JOKE'", """
            text "m,w"
            family() = 2
            thing(3, 1, 0, 0|1|2|11|13|-1|MAX|MIN) = BAD
            count(2) = 0
            thing(3, 1, 0, 12) = 0
            of(0, 3) = 12
            """);
    }

    private static void of() {
        script.run("9 BAD: what is below 0 or above 3; a THING that is not", """
            text "m,w"
            family() = 2
            of(0, 0) = BAD
            thing(1, 9, 0, 1) = 0
            of(0, -1|4|5|12|MAX|MIN) = BAD
            of(-1|1|11|12|13|MAX|MIN, 0|1|2|3) = BAD
            of(0, 0) = 1
            of(0, 3) = 1
            """);
        script.run("9 'HOLDER (12: LAPSED)', '3 OTHER (12: none)'", """
            text "m,w"
            family() = 2
            thing(0, 9, 0, 12) = 0
            thing(1, 8, 0, 1) = 1
            thing(2, 7, 1, 0) = 2
            thing(3, 6, 0, 12) = 3
            dies(0) = 3
            of(0|1|2|3, 2) = 12
            of(0|1|2|3, 3) = 12
            of(1, 0) = 1                        # KIND and WORTH are told still
            of(2, 0) = 2
            of(0, 1) = 9
            of(3, 1) = 6
            """);
        script.run("9 'HOLDER (13: ENDED)', '3 OTHER (12: none)'", """
            text "m,wfa"
            family() = 2
            thing(1, 8, 0, 1) = 0
            dies(0) = 1
            of(0, 2) = 13
            of(0, 3) = 12
            of(0, 0) = 1
            of(0, 1) = 8
            """);
    }

    private static void rule() {
        script.run("10 'a row of n RELATIONS (1 .. 3)'", """
            rule(0|1|2|3, 0|1|8|209, 0|-1|4|5|11|12|MAX|MIN) = BAD
            rule(0, 5, 1) = 0
            rule(0, 37, 2) = 5                  # 5 4
            rule(0, 229, 3) = 37                # 5 4 3
            rule(0, 0, 1) = 229
            """);
        script.run("10 a KIND is 0 .. 3", """
            rule(-1|4|5|MAX|MIN, 0, 1) = BAD
            rule(0, 0, 1) = 0
            rule(1, 1, 1) = 1
            rule(2, 3, 1) = 3
            rule(3, 5, 1) = 5
            """);
        script.run("10 a RELATION is 0 .. 5, in each place", """
            rule(0, 6|7, 1) = BAD
            rule(0, 48|56|6|7|14|15, 2) = BAD   # 0 6, 0 7, 6 0, 7 0, 6 1, 7 1
            rule(0, 86|87|177|185|401|465, 3) = BAD     # 6 2 1, 7 2 1, 1 6 2, 1 7 2, 1 2 6, 1 2 7
            rule(0, 392|456|112|120, 3) = BAD   # 0 1 6, 0 1 7, 0 6 1, 0 7 1
            rule(0, 0, 1) = 0
            rule(0, 5, 1) = 0
            """);
        script.run("10 'BAD: also one twice', in each two places", """
            rule(0, 0|9|18|27|36|45, 2) = BAD
            rule(0, 64|0|8, 3) = BAD            # 0 0 1, 0 0 0, 0 1 0
            rule(0, 72, 3) = BAD                # 0 1 1
            rule(0, 329|301|357|364, 3) = BAD   # 1 1 5, 5 5 4, 5 4 5, 4 5 5
            rule(0, 354, 3) = 0                 # 2 4 5
            rule(0, 0, 1) = 354
            """);
        script.run("10 'BAD: also more digits'", """
            rule(0, 8|9|10|16|40|64|512|4096|0x40000001, 1) = BAD
            rule(0, 72|136|74|520|0x10008|0x40000008, 2) = BAD  # 0 1 1, 0 1 2, 2 1 1, 0 1 0 1, 0 1 and more
            rule(0, 648|1160|4232|0x40000088, 3) = BAD  # 0 1 2 1, 0 1 2 2, 0 1 2 0 1, 0 1 2 and more
            rule(0, MAX|MIN|-1|-8|-64|-512, 1|2|3) = BAD
            rule(0, -2147483643, 1) = BAD       # the sign alone is too much
            rule(0, -2147483640, 2) = BAD
            rule(0, -2147483512, 3) = BAD
            rule(0, 0, 1) = 0
            """);
        script.run("10 'what it was (so)': a 0 behind the last digit does not show", """
            rule(1, 1, 2) = 1                   # 1 0
            rule(1, 8, 2) = 1                   # 0 1
            rule(1, 10, 3) = 8                  # 2 1 0
            rule(1, 1, 1) = 10
            """);
    }

    /** All 6 + 30 + 120 rows of unlike relations are taken and told again, and no other number below 8 to the n. */
    private static void everyRow() {
        for (int n = 1; n <= 3; n++) {
            int taken = 0;
            int was = 0;
            KinGoods x = new KinGoods();
            for (int row = 0; row < 1 << 3 * n; row++) {
                if (row % 256 == 0) {
                    x = new KinGoods();
                    was = 0;
                }
                boolean fine = isRow(row, n);
                script.same("10 rule(0, " + row + ", " + n + ")", x.rule(0, row, n), fine ? was : -1);
                was = fine ? row : was;
                taken += fine ? 1 : 0;
            }
            script.same("10 rows of " + n, taken, n == 1 ? 6 : n == 2 ? 30 : 120);
        }
    }

    private static boolean isRow(int row, int n) {
        String digits = Integer.toOctalString(row + (1 << 3 * n)).substring(1);
        return digits.chars().allMatch(c -> c <= '5') && digits.chars().distinct().count() == n;
    }

    private static void heir() {
        script.run("11 'the first living one'", """
            text "m,mfa,mfa,mfa"
            family() = 4
            heir(0, 0) = 1
            dies(1) = 0
            heir(0, 0) = 2
            dies(2) = 0
            heir(0, 0) = 3
            dies(3) = 0
            heir(0, 0) = NONE
            """);
        script.run("11 the first and the last of twelve", """
            text "m,m,m,m,m,m,m,m,m,m,m,mfa"
            family() = 12
            heir(0, 0) = 11
            god(11, 0) = 12
            heir(11, 3) = 0
            heir(11, 0) = NONE
            """);
        script.run("11 'of the first RELATION in the row that has any'", """
            text "m,wfa,mfa,wsa"
            family() = 4
            rule(0, 264, 3) = 0                 # SON, DAUGHTER, SPOUSE
            heir(0, 0) = 2
            dies(2) = 0
            heir(0, 0) = 1
            dies(1) = 0
            heir(0, 0) = 3
            dies(3) = 0
            heir(0, 0) = NONE
            """);
        script.run("11 a RELATION behind the row's end does not count", """
            text "m,wfa,wsa"
            family() = 3
            rule(0, 13, 2) = 0                  # GODCHILD, DAUGHTER
            heir(0, 0) = 1
            rule(0, 5, 1) = 13
            heir(0, 0) = NONE
            rule(0, 5, 2) = 5                   # GODCHILD, SON
            heir(0, 0) = NONE
            """);
    }

    private static void heirRefused() {
        script.run("11 BAD: nobody, no KIND", """
            text "m,mfa"
            family() = 2
            heir(-1|2|11|12|13|MAX|MIN, 0|1|2|3) = BAD
            heir(0|1, -1|4|5|MAX|MIN) = BAD
            """);
        script.run("11 'NOT: dead already'", """
            text "m,mfa"
            family() = 2
            dies(0) = 0
            heir(0, 0|1|2|3) = NOT
            """);
        script.run("11 BAD ahead of NOT, NOT ahead of NONE", """
            text "m"
            family() = 1
            heir(0, 0|1|2|3) = NONE
            dies(0) = 0
            heir(0, -1|4) = BAD
            heir(0, 0) = NOT
            """);
    }

    private static void count() {
        script.run("15 BAD: what is below 0 or above 6", """
            count(-1|7|8|12|MAX|MIN) = BAD
            count(0|6) = 0
            """);
        script.run("15 '3 HELD, 4 LAPSED, 5 ENDED' are all THINGS", """
            text "m,wfa,m"
            family() = 3
            thing(0, 1, 0, 12) = 0
            thing(1, 2, 0, 1) = 1
            thing(3, 3, 2, 12) = 2
            count(2|3) = 3
            count(4|5) = 0
            dies(0) = 2
            count(2) = 3
            count(3|4|5) = 1
            """);
        script.run("15 '6 WORTH of LANDS (of KIND 0 alone) that are HELD'", """
            text "m,w"
            family() = 2
            thing(1, 10, 0, 1) = 0
            thing(2, 20, 0, 1) = 1
            thing(3, 40, 0, 12) = 2             # a JOKE, though below LAND, is none
            count(6) = 0
            thing(0, 99, 0, 12) = 3
            thing(0, 98, 1, 12) = 4
            count(6) = 197
            dies(0) = 4
            count(6) = 98                       # what LAPSED does not count
            dies(1) = 1
            count(6) = 0
            """);
        script.run("15 twelve LANDS of 99", """
            text "m"
            family() = 1
            """ + lands(12, 99) + """
            count(6) = 1188
            gathers(0, 0) = 1188
            """);
        script.run("15 twelve PEOPLE, how many of them live", """
            text "m,m,m,m,m,m,m,m,m,m,m,m"
            family() = 12
            count(0|1) = 12
            dies(0|1|2|3|4|5|6|7|8|9|10) = 0
            count(1) = 1
            dies(11) = 0
            count(1) = 0
            count(0) = 12
            """);
    }
}
