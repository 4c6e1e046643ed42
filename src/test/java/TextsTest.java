/** Promises 12 to 14: type, family, rules. */
public final class TextsTest {
    private static final Script script = new Script();

    public static void main(String[] args) {
        type();
        full();
        family();
        familyFaults();
        familyPlaces();
        familyInPlace();
        rules();
        ruleFaults();
        script.end();
    }

    private static void type() {
        script.run("12 type", """
            type(0x6d, 1) = 1           # m
            type(0x2c77, 2) = 3         # ,w
            family() = 2
            told(0, 0) = 0
            told(1, 0) = 1
            type(0x6d2c6d66612c7766, 8) = 8
            type(0x7a7a61, 1) = 9       # of zza the lowest byte
            family() = 3
            told(2, 0) = 1
            told(2, 2) = 0
            """);
        script.run("12 bad", """
            type(0x6d, 0) = BAD
            type(0x6d, -1) = BAD
            type(0x6d6d6d6d6d6d6d6d, 9) = BAD
            type(31, 1) = BAD
            type(127, 1) = BAD
            type(0, 1) = BAD
            type(0x6d, 2) = BAD         # a byte 0 ahead of it
            type(0x6d1f, 2) = BAD
            type(0x7f6d, 2) = BAD
            type(0x6d7f6d, 3) = BAD
            type(-1, 8) = BAD
            type(200, 1) = BAD
            type(0x206d, 2) = 2         # nothing has come: this is all
            type(126, 1) = 3
            type(32, 1) = 4
            family() = fault 2
            type(0x7f6d, 1) = 1
            type(-147, 1) = 2           # its lowest byte is m
            family() = fault 1
            """);
    }

    private static void full() {
        script.run("12 full", """
            text "mmmmmmmmmmmmmmmmmmmmmmmmmmmmmmmmmmmmmmmmmmmmmmmmmmmmmmmmmmmmmmmm"
            text "                                                "
            type(0x2020202020202020, 8) = 120
            type(32, 1) = FULL
            type(0x2020202020202020, 8) = FULL
            type(31, 1) = BAD           # ahead of FULL
            type(32, 9) = BAD
            family() = fault 1
            type(32, 1) = 1             # it is empty again
            """);
        script.run("12 full by some of the bytes", """
            text "                                                                                                               "
            type(0x2020202020202020, 8) = 119
            type(0x2020, 2) = FULL
            type(0x20, 1) = 120
            type(0x20, 1) = FULL
            rules() = fault 120
            type(0x20, 1) = 1
            """);
    }

    private static void family() {
        script.run("13 family", """
            text "m,wsa,mfaob,wfaob,msd"
            family() = 5
            count(0) = 5
            count(1) = 5
            told(0, 4) = 1
            told(1, 4) = 0
            told(2, 2) = 0
            told(2, 3) = 1
            told(3, 0) = 1
            told(3, 4) = 4
            told(4, 4) = 3
            told(4, 2) = 12
            told(2, 5) = 12
            text "w,msa,wfboasb"
            family() = fault 12         # b has a spouse
            count(0) = 5
            text " w , m  s a ,w f b o a "
            family() = 3
            told(0, 4) = 1
            told(1, 4) = 0
            told(2, 2) = 1
            told(2, 3) = 0
            text "m,m,m,m,m,m,m,m,m,m,w,wfjoksj"
            family() = 12
            told(11, 2) = 9
            told(11, 3) = 10
            told(11, 4) = 9
            told(9, 4) = 11
            """);
        script.run("13 couples who could not marry", """
            text "m,wfasa,mob,wfaobsc"
            family() = 4
            told(1, 4) = 0
            told(1, 2) = 0
            told(3, 4) = 2
            """);
    }

    private static void familyFaults() {
        script.run("13 faults", """
            family() = fault 0
            text "   "
            family() = fault 3
            text ","
            family() = fault 0
            text "a"
            family() = fault 0
            text "M"
            family() = fault 0
            text "mm"
            family() = fault 1
            text "m,"
            family() = fault 2
            text "m,,m"
            family() = fault 2
            text "mf"
            family() = fault 2
            text "m,mf"
            family() = fault 4
            text "m,mfb"
            family() = fault 4
            text "m,mfA"
            family() = fault 4
            text "m,mf,"
            family() = fault 4
            text "w,mfa"
            family() = fault 4
            text "m,moa"
            family() = fault 4
            text "m,msa"
            family() = fault 4
            text "w,wsa"
            family() = fault 4
            text "m,wfz"
            family() = fault 4
            text "mo"
            family() = fault 2
            text "ms"
            family() = fault 2
            text "moa"
            family() = fault 2
            text "wsa"
            family() = fault 2
            text "woa"
            family() = fault 2
            text "m,wob"
            family() = fault 4
            text "m,wsasa"
            family() = fault 5
            text "m,mfafa"
            family() = fault 5
            text "m,w,mobfa"
            family() = fault 7
            text "m,w,msbfa"
            family() = fault 7
            text "m,w,msbob"
            family() = fault 7
            text "m,w,mfaobsbm"
            family() = fault 11
            text "m,w,mfao"
            family() = fault 8
            text "m,w,mfaoa"
            family() = fault 8
            text "m;w"
            family() = fault 1
            text "m`"
            family() = fault 1
            text "m,mf`"
            family() = fault 4
            text "m,w,mfaobs"
            family() = fault 10
            text "m,m,m,m,m,m,m,m,m,m,m,m,"
            family() = fault 23
            text "m,m,m,m,m,m,m,m,m,m,m,mx"
            family() = fault 23
            text "m,m,m,m,m,m,m,m,m,m,m,mfl"
            family() = fault 24
            text "m,m,m,m,m,m,m,m,m,m,m,mfm"
            family() = fault 24
            text "m,m,m,m,m,m,m,m,m,m,m,"
            family() = fault 22
            text "m,m,m,m,m,m,m,m,m,m,m,mfk"
            family() = 12
            """);
    }

    private static void familyPlaces() {
        script.run("13 a blank is never at fault, but it has a place", """
            text "  m x"
            family() = fault 4
            text " m , m f b "
            family() = fault 9
            text "m ,  "
            family() = fault 5          # the end: how many bytes there are
            text "m , w s  "
            family() = fault 9
            text "m,mf "
            family() = fault 5
            text " "
            family() = fault 1
            text "m,m,m,m,m,m,m,m,m,m,m,m  ,m"
            family() = fault 25
            text "m , w s a , w   s a"
            family() = fault 18
            text "   "
            type(0x6d, 1) = 4
            type(0x20, 1) = 5
            family() = 1                # blanks at the end are no fault
            """);
    }

    private static void familyInPlace() {
        script.run("13 in place of all people", """
            text "m,wsa"
            family() = 2
            god(0, 1) = 12
            thing(0, 10, 0, 12) = 0
            rule(0, 4, 1) = 0
            seed(77) = 1
            image() = 1
            sheet(0, 0, 3) = 3
            dies(1) = 0
            text "m,x"
            family() = fault 2
            count(0) = 2                # those told stay
            count(1) = 1
            count(2) = 1
            told(0, 5) = 1
            text "w,w"
            family() = 2                # the tape was empty in spite of the fault
            count(0) = 2
            count(1) = 2
            count(2) = 0
            told(0, 0) = 1
            told(0, 4) = 12
            told(0, 5) = 12
            told(1, 4) = 12
            of(0, 0) = BAD
            rule(0, 0, 1) = 4           # rules, draw, sheets, the image stay
            seed(1) = 77
            drop(0) = 3
            family() = fault 0
            restore() = 1
            count(2) = 1
            told(0, 5) = 1
            text "w"
            family() = 1
            count(0) = 1
            told(0, 0) = 1
            """);
        script.run("13 nothing of the greater family is left", """
            text "m,wsa,mfaob,wfaob,mfcod"
            family() = 5
            thing(0, 10, 4, 12) = 0
            thing(1, 20, 1, 0) = 1
            thing(0, 30, 0, 12) = 2
            text "m,w"
            family() = 2
            count(0) = 2
            count(1) = 2
            count(2) = 0
            count(3) = 0
            count(6) = 0
            kin(0, 0) = {}
            kin(1, 1) = {}
            gathers(0, 0) = 0
            gathers(0, 1) = 0
            balance(0) = 0
            paid() = 0
            sheet(0, 0, 0) = 0
            film(0, 0, 0) = 0
            dies(0) = 0
            count(4) = 0
            text "w,m"
            family() = 2
            kin(0, 0) = {}
            kin(1, 0) = {}
            person(0, 12, 12) = 2
            told(2, 4) = 12
            told(2, 5) = 12
            """);
    }

    private static void rules() {
        script.run("14 rules", """
            text "l:4"
            rules() = 1
            rule(0, 4, 1) = 4
            rule(1, 1, 1) = 1           # others stay
            text "j:10;q:253;d:2;l:0"
            rules() = 4
            rule(0, 0, 1) = 0
            rule(1, 2, 1) = 2
            rule(2, 234, 3) = 234       # 2 5 3
            rule(3, 1, 2) = 1           # 1 0
            text " d : 5 4 ; j : 0 "
            rules() = 2
            rule(1, 5, 1) = 37
            rule(3, 5, 1) = 0
            rules() = fault 0
            text "m,mfa,wfa"
            family() = 3
            text "l:10"
            rules() = 1
            heir(0, 0) = 2
            text "l:01"
            rules() = 1
            heir(0, 0) = 1
            text "l:02"
            rules() = 1
            heir(1, 0) = 2              # the length of a row that begins with 0
            text "l:0"
            rules() = 1
            heir(1, 0) = NONE
            """);
    }

    private static void ruleFaults() {
        script.run("14 faults", """
            rules() = fault 0
            text "  "
            rules() = fault 2
            text "m:0"
            rules() = fault 0
            text "L:0"
            rules() = fault 0
            text ";l:0"
            rules() = fault 0
            text "l"
            rules() = fault 1
            text "l0"
            rules() = fault 1
            text "l;d:0"
            rules() = fault 1
            text "l:"
            rules() = fault 2
            text "l:;d:0"
            rules() = fault 2
            text "l:6"
            rules() = fault 2
            text "l:/"
            rules() = fault 2
            text "l:11"
            rules() = fault 3
            text "l:17"
            rules() = fault 3
            text "l:18"
            rules() = fault 3
            text "l:1/"
            rules() = fault 3
            text "l:121"
            rules() = fault 4
            text "l:122"
            rules() = fault 4
            text "l:1230"
            rules() = fault 5
            text "l:0,d:1"
            rules() = fault 3
            text "l:123;"
            rules() = fault 6
            text "l:0d:1"
            rules() = fault 3
            text "l:1;;d:1"
            rules() = fault 4
            text "d:1;l:2;d:0"
            rules() = fault 8
            text "l:1;d:2;q:3;j:4;"
            rules() = fault 15
            text "l:1;d:2;q:3;j:4:"
            rules() = fault 15
            text "l:1;d:2;q:3;j:44"
            rules() = fault 15
            text " l : 5 ; d x"
            rules() = fault 11
            rule(0, 0, 1) = 0           # those told stay
            rule(1, 1, 1) = 1
            rule(2, 3, 1) = 3
            rule(3, 5, 1) = 5
            text "l:5"
            rules() = 1
            rule(0, 0, 1) = 5
            """);
        script.run("14 a blank is never at fault, but it has a place", """
            type(32, 1) = 1
            rules() = fault 1
            text " x"
            rules() = fault 1
            text "l "
            rules() = fault 2
            text "l : "
            rules() = fault 4
            text "l :  6"
            rules() = fault 5
            text "l: 0 0"
            rules() = fault 5
            text "l:012  3"
            rules() = fault 7
            text "l:0 ; "
            rules() = fault 6
            text "l:0 ; l:1"
            rules() = fault 6
            text "l:1;d:2;q:3;j:4 ;"
            rules() = fault 16
            text "l:0 1  "
            rules() = 1
            rule(0, 0, 1) = 8           # 0 1
            """);
        script.run("14 nothing else changes", """
            text "m,wsa"
            family() = 2
            thing(1, 8, 0, 1) = 0
            dies(1) = 0
            seed(9) = 1
            text "q:0"
            rules() = 1
            count(0) = 2
            count(1) = 1
            of(0, 2) = 12
            told(1, 4) = 0
            seed(9) = 9
            """);
    }
}
