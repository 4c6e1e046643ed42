/** The edges that the document names of the tape and of texts: promises 12 to 14 and section 3's FAMILY, RULES, FAULTS. */
public final class TextsBoundsTest {
    private static final String TWELVE = "m,m,m,m,m,m,m,m,m,m,m,m";
    private static final Script script = new Script();

    public static void main(String[] args) {
        typeNumbers();
        typeBytes();
        typeFull();
        tapeIsEmptyThen();
        familySizes();
        familyBytes();
        familyEnds();
        familyNames();
        familyInPlace();
        rulesSizes();
        rulesBytes();
        rulesEnds();
        rulesStay();
        faultsWithBlanks();
        script.end();
    }

    private static KinGoods typed(String text) {
        KinGoods x = new KinGoods();
        Script.type(x, text);
        return x;
    }

    private static long family(String text) {
        return typed(text).family();
    }

    private static long rules(String text) {
        return typed(text).rules();
    }

    private static String blanks(int many) {
        return " ".repeat(many);
    }

    private static void typeNumbers() {
        script.run("12 'BAD: n', which is 1 .. 8", """
            type(0x6d6d6d6d6d6d6d6d, 0|-1|9|10|16|64|MAX|MIN) = BAD
            type(0x6d6d6d6d6d6d6d6d, 1) = 1     # nothing has come ahead of it
            type(0x6d6d6d6d6d6d6d6d, 8) = 9
            """);
        script.run("12 'the n lowest bytes': what stands above them does not count", """
            type(0x006d, 1) = 1
            type(-147, 1) = 2                   # all above m are 255
            type(0x7f1f6d, 1) = 3
            type(0x007f2c6d, 2) = 5
            family() = fault 1
            type(0x00006d, 2) = BAD
            type(-147, 2) = BAD
            """);
        script.run("12 'of these the highest first'", """
            type(0x6d2c77, 3) = 3               # m,w
            family() = 2
            told(0, 0) = 0
            told(1, 0) = 1
            type(0x6d2c772c6d736277, 7) = 7     # without the m: fault at the comma
            family() = fault 0
            type(0x772c6d2c77736220, 8) = 8
            family() = 3
            told(2, 4) = 1
            """);
    }

    /** Each byte in each place of each length, on a new tape. */
    private static void typeBytes() {
        for (int n = 1; n <= 8; n++) {
            for (int place = 0; place < n; place++) {
                for (int v = 0; v < 256; v++) {
                    KinGoods x = new KinGoods();
                    long w = 0x6d6d6d6d6d6d6d6dL & ~(255L << 8 * place) | (long) v << 8 * place;
                    boolean fine = v >= 32 && v <= 126;
                    script.same("12 'a byte not 32 .. 126': " + v + " at " + place, x.type(w, n), fine ? n : -1);
                    script.same("12 how many the tape has behind that", x.type('m', 1), fine ? n + 1 : 1);
                }
            }
        }
    }

    private static void typeFull() {
        for (int had = 100; had <= 120; had++) {
            for (int n = 1; n <= 8; n++) {
                KinGoods x = typed(blanks(had));
                boolean fine = had + n <= 120;
                script.same("12 'FULL: 120' " + had + " and " + n, x.type(0x2020202020202020L, n), fine ? had + n : -3);
                script.same("12 a byte that can't be, ahead of FULL", x.type(0x20202020202020L << 8, n), -1);
                script.same("12 the end tells how many there are", x.rules(), -20 - (fine ? had + n : had));
            }
        }
        script.run("12 BAD ahead of FULL", """
            text "%s"
            type(32, 1) = FULL
            type(32, 0|9|-1) = BAD
            type(31|127|0|255, 1) = BAD
            type(0x2020, 2) = FULL
            type(0x1f20, 2) = BAD
            """.formatted(blanks(120)));
    }

    private static void tapeIsEmptyThen() {
        script.run("13 'empty then (whatever is answered)'", """
            text "m"
            family() = 1
            family() = fault 0
            text "x"
            family() = fault 0
            type(0x77, 1) = 1
            family() = 1
            text "%s"
            type(32, 1) = FULL
            family() = fault 120
            type(32, 1) = 1
            rules() = fault 1
            type(32, 1) = 1
            """.formatted(blanks(120)));
        script.run("14 'empty then (whatever is answered)'", """
            text "l:1"
            rules() = 1
            rules() = fault 0
            text "x"
            rules() = fault 0
            text "d:0"
            rules() = 1
            text "%s"
            type(32, 1) = FULL
            rules() = fault 120
            type(32, 1) = 1
            family() = fault 1
            type(32, 1) = 1
            """.formatted(blanks(120)));
    }

    private static void familySizes() {
        script.same("13 '1 to 12 PEOPLE': none", family(""), -20);
        for (int many = 1; many <= 12; many++) {
            String text = TWELVE.substring(0, 2 * many - 1);
            script.same("13 '1 to 12 PEOPLE' " + many, family(text), many);
            script.same("13 the end behind a comma", family(text + ","), many < 12 ? -20 - 2 * many : -43);
        }
        script.same("13 '1 to 12 PEOPLE': a thirteenth's comma can't stand", family(TWELVE + ",m"), -43);
        script.same("13 a thirteenth without a comma", family(TWELVE + "m"), -43);
        String longest = "m,w,mfaobsb,w,mfaobsd,w,mfaobsf,w,mfaobsh,w,mfaobsj,w";
        script.same("13 twelve with all that can be told", family(longest), 12);
        String wide = longest.replace("", " ");
        script.same("13 a tape of 120 with blanks", family(wide + blanks(120 - wide.length())), 12);
        script.same("13 a tape of 120 with a fault in the last byte", family(blanks(119) + "x"), -139);
        script.same("13 a tape of 120 with one in the last byte", family(blanks(119) + "w"), 1);
    }

    /** Behind a text that can stand, each byte but those that can stand next is the fault. */
    private static void familyByte(String ahead, String fine) {
        for (char c = 33; c <= 126; c++) {
            boolean stands = fine.indexOf(c) >= 0;
            boolean fault = family(ahead + c) == -20 - ahead.length();
            script.same("13 '" + c + "' behind '" + ahead + "' can't stand there", fault ? 1 : 0, stands ? 0 : 1);
        }
    }

    private static void familyBytes() {
        familyByte("", "mw");
        familyByte("m", "fos,");
        familyByte("w", "fos,");
        familyByte("m,", "mw");
        familyByte("m,w,m", "fos,");
        familyByte("m,w,mfa", "os,");
        familyByte("m,w,mob", "s,");
        familyByte("m,w,mfaob", "s,");
        familyByte("m,w,msb", ",");
        familyByte("m,w,mfaobsb", ",");
        familyByte("mf", "");
        familyByte("mo", "");
        familyByte("ms", "");
        familyByte("w,m,wf", "b");
        familyByte("w,m,wo", "a");
        familyByte("w,m,ws", "b");
        familyByte("w,m,ms", "a");
        familyByte("w,m,w,m,wf", "bd");
        familyByte("w,m,w,m,wo", "ac");
        familyByte("w,m,w,m,wsb,ws", "d");
        familyByte("w,m,wsb,m,w,ms", "ae");
        familyByte(TWELVE, "fos");
        familyByte(TWELVE + "f", "abcdefghijk");
        familyByte(TWELVE + "o", "");
        familyByte(TWELVE + "fa", "os");
        familyByte(TWELVE.replace('m', 'w') + "o", "abcdefghijk");
        familyByte(TWELVE.substring(0, 22) + "ws", "abcdefghijk");
        familyByte(TWELVE.substring(0, 22) + "wfksj", "");
    }

    private static void familyEnds() {
        long[] due = {-20, 1, -22, 2, -24, 3, -26, 3, -28, 3, -30, 3};
        for (int n = 0; n < due.length; n++) {
            script.same("13 'the end: how many bytes there are' " + n, family("m,w,mfaobsb".substring(0, n)), due[n]);
        }
    }

    private static void familyNames() {
        script.run("13 'a MAN told ahead, a the first': the letters a .. k, oneself not", """
            text "m,mfa,m,m,m,m,m,m,m,m,m,mfk"
            family() = 12
            told(1, 2) = 0
            told(11, 2) = 10
            text "m,mfb"
            family() = fault 4
            text "m,m,m,m,m,m,m,m,m,m,m,mfl"
            family() = fault 24
            text "m,m,m,m,m,m,m,m,m,m,m,mfm"
            family() = fault 24
            """);
        script.run("13 'a WOMAN told ahead'", """
            text "w,woa,w,w,w,w,w,w,w,w,w,wok"
            family() = 12
            told(1, 3) = 0
            told(11, 3) = 10
            text "w,wob"
            family() = fault 4
            text "w,m,wob"
            family() = fault 6
            """);
        script.run("13 SPOUSE 'one told ahead, of the other sex'", """
            text "m,w,w,w,w,w,w,w,w,w,w,wsa"
            family() = 12
            told(0, 4) = 11
            told(11, 4) = 0
            text "m,msa"
            family() = fault 4
            text "w,wsa"
            family() = fault 4
            text "w,msb"
            family() = fault 4
            text "w,msc,w"
            family() = fault 4          # told behind, not ahead
            """);
        script.run("13 SPOUSE 'who has none; both have then'", """
            text "m,wsa,wsa"
            family() = fault 8
            text "w,msa,m,msa"
            family() = fault 10
            text "m,wsa,m,wsc"
            family() = 4
            told(0, 4) = 1
            told(1, 4) = 0
            told(2, 4) = 3
            told(3, 4) = 2
            """);
        script.run("13 'an f, o, s can, though nobody such was told ahead: then what stands behind it can't'", """
            text "mfa"
            family() = fault 2
            text "woa"
            family() = fault 2
            text "wsa"
            family() = fault 2
            text "mf"
            family() = fault 2
            text "mo,w"
            family() = fault 2
            text "ms,w"
            family() = fault 2
            """);
        script.run("13 perhaps f, perhaps o, perhaps s, in this order, none twice", """
            text "m,w,mobfa"
            family() = fault 7
            text "m,w,msbfa"
            family() = fault 7
            text "m,w,msbob"
            family() = fault 7
            text "m,w,mfafa"
            family() = fault 7
            text "m,w,mobob"
            family() = fault 7
            text "m,w,m,msbsb"
            family() = fault 9
            text "m,w,mfasb"
            family() = 3
            text "m,w,mobsb"
            family() = 3
            """);
    }

    private static void familyInPlace() {
        script.run("13 'in place of all PEOPLE (all live); THINGS are gone'", """
            text "m,wsa,mfaob"
            family() = 3
            god(0, 2) = 12
            thing(0, 9, 0, 12) = 0
            thing(1, 8, 0, 1) = 1
            dies(2) = 0
            text "w"
            family() = 1
            count(0|1) = 1
            count(2|3|4|5|6) = 0
            told(0, 0|1) = 1
            told(0, 2|3|4|5) = 12
            told(1|2, 0) = BAD
            of(0|1, 0) = BAD
            thing(3, 1, 0, 12) = 0
            """);
        script.run("13 'A FAULT (those told stay)': PEOPLE, who of them live, THINGS", """
            text "m,wsa,mfaob"
            family() = 3
            god(0, 2) = 12
            thing(0, 9, 0, 12) = 0
            dies(1) = 0
            text "w,w,w,w,x"
            family() = fault 8
            count(0) = 3
            count(1) = 2
            count(2|3) = 1
            count(6) = 9
            told(0, 0) = 0
            told(0, 5) = 2
            told(1, 4) = 0
            told(1, 1) = 0
            told(2, 2) = 0
            told(2, 3) = 1
            text "w,"
            family() = fault 2
            family() = fault 0
            count(0) = 3
            """);
    }

    private static void rulesSizes() {
        script.same("14 '1 to 4': none", rules(""), -20);
        script.same("14 '1 to 4' 1", rules("l:0"), 1);
        script.same("14 '1 to 4' 2", rules("l:0;d:0"), 2);
        script.same("14 '1 to 4' 3", rules("l:0;d:0;q:0"), 3);
        script.same("14 '1 to 4' 4", rules("l:0;d:0;q:0;j:0"), 4);
        script.same("14 a fifth's ; can't stand", rules("l:0;d:0;q:0;j:0;"), -35);
        script.same("14 a fifth", rules("l:0;d:0;q:0;j:0;l:0"), -35);
        String longest = "l:012;d:345;q:123;j:540";
        script.same("14 four of three", rules(longest), 4);
        String wide = longest.replace("", "   ");
        script.same("14 a tape of 120 with blanks", rules(wide + blanks(120 - wide.length())), 4);
        script.same("14 a tape of 120 with a fault in the last byte", rules(blanks(117) + "l:6"), -139);
        script.same("14 a tape of 120 with a digit in the last byte", rules(blanks(117) + "l:5"), 1);
    }

    private static void rulesByte(String ahead, String fine) {
        for (char c = 33; c <= 126; c++) {
            boolean stands = fine.indexOf(c) >= 0;
            boolean fault = rules(ahead + c) == -20 - ahead.length();
            script.same("14 '" + c + "' behind '" + ahead + "' can't stand there", fault ? 1 : 0, stands ? 0 : 1);
        }
    }

    private static void rulesBytes() {
        rulesByte("", "ldqj");
        rulesByte("l", ":");
        rulesByte("l:", "012345");
        rulesByte("l:0", "12345;");
        rulesByte("l:5", "01234;");
        rulesByte("l:05", "1234;");
        rulesByte("l:051", ";");
        rulesByte("l:0;", "dqj");
        rulesByte("d:0;", "lqj");
        rulesByte("q:0;", "ldj");
        rulesByte("j:0;", "ldq");
        rulesByte("j:0;l:1;", "dq");
        rulesByte("j:0;l:1;q:2;", "d");
        rulesByte("j:0;l:1;q:2;d", ":");
        rulesByte("j:0;l:1;q:2;d:", "012345");
        rulesByte("j:0;l:1;q:2;d:3", "01245");
        rulesByte("j:0;l:1;q:2;d:34", "0125");
        rulesByte("j:0;l:1;q:2;d:345", "");
    }

    private static void rulesEnds() {
        long[] due = {-20, -21, -22, 1, 1, 1, -26, -27, -28, 2, -30, -31, -32, 3, 3, -35, -36, -37, 4};
        for (int n = 0; n < due.length; n++) {
            script.same("14 'the end: how many bytes there are' " + n, rules("l:012;d:3;q:45;j:0".substring(0, n)), due[n]);
        }
    }

    private static void rulesStay() {
        script.run("14 'of these KINDS (others stay)', l d q j 'KINDS in this order'", """
            text "q:2"
            rules() = 1
            rule(0, 0, 1) = 0
            rule(1, 1, 1) = 1
            rule(2, 2, 1) = 2
            rule(3, 5, 1) = 5
            text "l:4;j:1"
            rules() = 2
            text "d:5"
            rules() = 1
            rule(0, 0, 1) = 4
            rule(1, 1, 1) = 5
            rule(2, 2, 1) = 2
            rule(3, 5, 1) = 1
            """);
        script.run("14 a row's length comes with it", """
            text "m,wfa,mfa"
            family() = 3
            text "l:10;d:50;q:504;j:51"
            rules() = 4
            heir(0, 0|3) = 1
            heir(0, 1|2) = 2
            dies(1) = 0
            heir(0, 0|1|2) = 2
            heir(0, 3) = NONE
            text "l:1;d:5;q:54;j:5"
            rules() = 4
            heir(0, 0|1|2|3) = NONE
            """);
        script.run("14 'A FAULT (those told stay)': none of the text's is taken", """
            text "l:4;d:5;q:0;j:1;"
            rules() = fault 15
            text "l:4;d:5;q:0;j:6"
            rules() = fault 14
            text "l:45;d"
            rules() = fault 6
            rule(0, 0, 1) = 0
            rule(1, 1, 1) = 1
            rule(2, 3, 1) = 3
            rule(3, 5, 1) = 5
            """);
    }

    /** A blank ahead of each byte: what can stand stands still, and each fault is at its place on the tape. */
    private static void faultsWithBlanks() {
        String family = "m,w,mfaobsb";
        String rules = "l:012;d:3;q:45;j:0";
        for (int gap = 1; gap <= 5; gap++) {
            for (int n = 0; n <= family.length(); n++) {
                String told = wide(family.substring(0, n), gap);
                String what = "13 faults of '" + told + "', blanks between";
                long plain = family(family.substring(0, n));
                script.same(what, family(told), plain > 0 ? plain : -20 - told.length());
                script.same(what + " and a byte", family(told + "x"), -20 - told.length());
                script.same(what + " and a blank", family(told + " "), plain > 0 ? plain : -21 - told.length());
            }
            for (int n = 0; n <= rules.length(); n++) {
                String told = wide(rules.substring(0, n), gap);
                String what = "14 faults of '" + told + "', blanks between";
                long plain = rules(rules.substring(0, n));
                script.same(what, rules(told), plain > 0 ? plain : -20 - told.length());
                script.same(what + " and a byte", rules(told + "x"), -20 - told.length());
                script.same(what + " and a blank", rules(told + " "), plain > 0 ? plain : -21 - told.length());
            }
        }
        script.same("13 a tape of blanks alone", family(blanks(120)), -140);
        script.same("14 a tape of blanks alone", rules(blanks(120)), -140);
    }

    private static String wide(String text, int gap) {
        StringBuilder told = new StringBuilder();
        for (char c : text.toCharArray()) {
            told.append(blanks(gap)).append(c);
        }
        return told.toString();
    }
}
