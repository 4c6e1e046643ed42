/** The edges that the document names of sheets: promises 26 and 28 to 32, section 4, a run for each of its sentences. */
public final class SheetsBoundsTest {
    private static final Script script = new Script();

    public static void main(String[] args) {
        judgedRefused();
        judged();
        judgedItems();
        filmRefused();
        film();
        sheet();
        newRow();
        drop();
        itemRefused();
        itemBits();
        copyRefused();
        copyIndex();
        copyWithin();
        copyAll();
        script.end();
    }

    private static void judgedRefused() {
        script.run("26 'n DEATHS (1 .. 8)': BAD below and above, ahead of NULL, CAST, INDEX", """
            person(0, 12, 12) = 0
            judged(0, 0, 0, 0|-1|9|10|24|MAX|MIN) = BAD
            sheet(0, 0, 24) = 24
            judged(0, 0|1, 0|-1|24, 0|-1|9|10|24|MAX|MIN) = BAD
            judged(0, 0, 0, 1) = NONE
            judged(0, 0, 16, 8) = 1
            """);
        script.run("26 BAD: no SHEET, no LANE, ahead of NULL", """
            judged(-1|4|5|MAX|MIN, 0, 0, 1) = BAD
            judged(0, -1|3|4|MAX|MIN, 0, 1) = BAD
            judged(0|1|2|3, 0|1|2, 0, 1) = NULL
            """);
        script.run("26 NULL ahead of INDEX", """
            judged(0|1|2|3, 0|1|2, -1|0|24|MAX|MIN, 1|8) = NULL
            """);
        script.run("26 CAST: 'of SHEETS another LANE', ahead of INDEX", """
            sheet(0, 0, 2) = 2
            sheet(1, 1, 2) = 2
            sheet(2, 2, 2) = 2
            judged(0, 1|2, 0|-1|2|MAX|MIN, 1|8) = CAST
            judged(1, 0|2, 0|-1|2|MAX|MIN, 1|8) = CAST
            judged(2, 0|1, 0|-1|2|MAX|MIN, 1|8) = CAST
            judged(0, 0, 0, 1) = 0
            judged(1, 1, 0, 1) = 0
            judged(2, 2, 0, 1) = 0
            """);
        script.run("26 INDEX: an item that is not, though an earlier one does not live", """
            person(0, 12, 12) = 0
            sheet(0, 0, 8) = 8
            sheet(1, 0, 0) = 0
            judged(0, 0, -1|8|9|24|MAX|MIN, 1) = INDEX
            judged(0, 0, 1|7|8|-1|MAX|MIN, 8) = INDEX
            judged(0, 0, 7|2147483646, 2) = INDEX
            judged(1, 0, 0|1|-1, 1|8) = INDEX
            judged(0, 0, 0, 8) = 1
            judged(0, 0, 7, 1) = NONE
            """);
    }

    private static void judged() {
        script.run("26 'the place in the row (0 first) of the first who does not live then': each place of eight", """
            text "m,m,m,m,m,m,m,m,m"
            family() = 9
            sheet(0, 0, 8) = 8
            item(0, 0, 1, 1) = 1
            item(0, 0, 2, 2) = 1
            item(0, 0, 3, 3) = 1
            item(0, 0, 4, 4) = 1
            item(0, 0, 5, 5) = 1
            item(0, 0, 6, 6) = 1
            item(0, 0, 7, 7) = 1
            judged(0, 0, 0, 8) = NONE
            dies(7) = 0
            judged(0, 0, 0, 8) = 7
            dies(6) = 0
            judged(0, 0, 0, 8) = 6
            dies(5) = 0
            judged(0, 0, 0, 8) = 5
            dies(4) = 0
            judged(0, 0, 0, 8) = 4
            dies(3) = 0
            judged(0, 0, 0, 8) = 3
            dies(2) = 0
            judged(0, 0, 0, 8) = 2
            judged(0, 0, 0, 2) = NONE
            dies(1) = 0
            judged(0, 0, 0, 8) = 1
            judged(0, 0, 0, 1) = NONE
            dies(0) = 0
            judged(0, 0, 0, 8|1) = 0
            judged(0, 0, 5, 1|3) = 0
            """);
        script.run("26 who dies in the row does not live then", """
            text "m,m"
            family() = 2
            sheet(0, 0, 3) = 3
            item(0, 0, 1, 1) = 1
            judged(0, 0, 0, 3) = 2          # 0 1 0
            judged(0, 0, 0, 2) = NONE
            judged(0, 0, 1, 2) = NONE
            """);
        script.run("26 '(nothing is changed by it)'", """
            text "m,wsa,mfa"
            family() = 3
            thing(0, 9, 0, 12) = 0
            sheet(0, 0, 2) = 2
            item(0, 0, 1, 1) = 1
            judged(0, 0, 0, 2) = NONE
            judged(0, 0, 0, 2) = NONE
            count(1) = 3
            of(0, 2) = 0
            told(0, 4) = 1
            told(1, 4) = 0
            """);
    }

    private static void judgedItems() {
        script.run("26 an item that names nobody is one who does not live, behind one who does", """
            text "m,m,m,m,m,m,m,m,m,m,m,m"
            family() = 12
            sheet(0, 2, 3) = 3
            item(0, 2, 1, 11) = 1
            judged(0, 2, 0, 2) = NONE
            item(0, 2, 1, 12) = 1
            judged(0, 2, 0, 2) = 1
            item(0, 2, 1, 13) = 1
            judged(0, 2, 0, 2) = 1
            item(0, 2, 1, -1) = 1
            judged(0, 2, 0, 2) = 1
            item(0, 2, 1, -21) = 1          # whose lowest five bits are 11
            judged(0, 2, 0, 2) = 1
            item(0, 2, 1, 43) = 1
            judged(0, 2, 0, 2) = 1
            item(0, 2, 1, -31) = 1
            judged(0, 2, 0, 2) = 1
            item(0, 2, 1, 33) = 1
            judged(0, 2, 0, 2) = 1
            item(0, 2, 1, MIN) = 1
            judged(0, 2, 0, 2) = 1
            item(0, 2, 1, MAX) = 1
            judged(0, 2, 0, 2) = 1
            item(0, 2, 0, -31) = 1
            item(0, 2, 1, 1) = 1
            judged(0, 2, 0, 2) = 0
            """);
        script.run("26 there is nobody", """
            sheet(0, 0, 8) = 8
            judged(0, 0, 0, 1|8) = 0
            """);
    }

    private static void filmRefused() {
        script.run("28 BAD: no SHEET, no LANE, ahead of NULL", """
            film(-1|4|5|MAX|MIN, 0, 0) = BAD
            film(0, -1|3|4|MAX|MIN, 0) = BAD
            film(0|1|2|3, 0|1|2, 0) = NULL
            """);
        script.run("28 NULL, CAST ahead of INDEX", """
            film(0|3, 0|1|2, -1|0|1|MAX|MIN) = NULL
            sheet(0, 1, 2) = 2
            film(0, 0|2, -1|0|3|MAX|MIN) = CAST
            film(0, 1, -1|3|MAX|MIN) = INDEX
            """);
        script.run("28 INDEX '(of none, too: from below 0, or above how many there are)'", """
            sheet(0, 0, 3) = 3
            sheet(1, 0, 0) = 0
            sheet(2, 0, 24) = 24
            film(0, 0, -1|4|5|MAX|MIN) = INDEX
            film(0, 0, 0|1|2|3) = 0
            film(1, 0, -1|1|MAX|MIN) = INDEX
            film(1, 0, 0) = 0
            film(2, 0, 25|-1) = INDEX
            film(2, 0, 24|0) = 0
            """);
        script.run("28 INDEX: not all have room; nothing comes then", """
            text "m,m"
            family() = 2
            thing(0, 1, 1, 12) = 0
            thing(0, 1, 1, 12) = 1
            sheet(0, 0, 3) = 3
            film(0, 0, -1|2|3|4|MAX|MIN|2147483646) = INDEX
            dies(1) = 2
            judged(0, 0, 0|1|2, 1) = NONE   # zeros still
            film(0, 0, 1) = 2
            judged(0, 0, 0, 1) = NONE
            judged(0, 0, 1|2, 1) = 0
            """);
    }

    private static void film() {
        script.run("28 'HOLDERS of all THINGS (12, 13 as told)', each in its place", """
            text "m,wfa,mfa,m,m"
            family() = 5
            thing(0, 1, 4, 12) = 0
            thing(1, 1, 0, 1) = 1           # will have ENDED
            thing(0, 1, 3, 12) = 2
            thing(3, 1, 0, 12) = 3          # will have LAPSED
            thing(0, 1, 0, 12) = 4          # will be the son's
            dies(0) = 3
            sheet(0, 2, 24) = 24
            film(0, 2, 19) = 5              # 4 13 3 12 2
            judged(0, 2, 19, 1) = NONE
            judged(0, 2, 19, 2) = 1
            judged(0, 2, 21, 2) = 1
            judged(0, 2, 23, 1) = NONE
            judged(0, 2, 18, 1) = 0
            text "m,m,m,m,m,m,m,m,m,m,m,m"
            family() = 12
            judged(0, 2, 20|22, 1) = 0      # 12 and 13 are nobody's
            dies(4) = 0
            judged(0, 2, 19, 1) = 0
            judged(0, 2, 21|23, 1) = NONE
            dies(3) = 0
            judged(0, 2, 21, 1) = 0
            dies(2) = 0
            judged(0, 2, 23, 1) = 0
            """);
        script.run("28 twelve THINGS to each LANE, at both ends of a SHEET", """
            text "m,m"
            family() = 2
            thing(0, 1, 1, 12) = 0
            thing(0, 1, 1, 12) = 1
            thing(0, 1, 1, 12) = 2
            thing(0, 1, 1, 12) = 3
            thing(0, 1, 1, 12) = 4
            thing(0, 1, 1, 12) = 5
            thing(0, 1, 1, 12) = 6
            thing(0, 1, 1, 12) = 7
            thing(0, 1, 1, 12) = 8
            thing(0, 1, 1, 12) = 9
            thing(0, 1, 1, 12) = 10
            thing(0, 1, 1, 12) = 11
            sheet(0, 0, 12) = 12
            sheet(1, 1, 24) = 24
            sheet(2, 2, 13) = 13
            sheet(3, 0, 11) = 11
            film(0, 0, 0) = 12
            film(0, 0, 1) = INDEX
            film(1, 1, 12) = 12
            film(1, 1, 13) = INDEX
            film(2, 2, 1) = 12
            film(3, 0, 0) = INDEX
            dies(0) = 0
            judged(0, 0, 0|11, 1) = NONE
            judged(1, 1, 12|23, 1) = NONE
            judged(1, 1, 11, 1) = 0
            judged(2, 2, 1|12, 1) = NONE
            judged(2, 2, 0, 1) = 0
            judged(3, 0, 0|10, 1) = 0
            """);
    }

    private static void sheet() {
        script.run("29 BAD: no SHEET (0 .. 3), no LANE (0 .. 2), ahead of SIZE", """
            sheet(-1|4|5|MAX|MIN, 0, 0|24|-1|25) = BAD
            sheet(0, -1|3|4|MAX|MIN, 0|24|-1|25) = BAD
            drop(0|1|2|3) = NULL
            """);
        script.run("29 'BAD: also n above 24'", """
            sheet(0|3, 0|1|2, 25|26|100|MAX) = BAD
            drop(0|3) = NULL
            sheet(0|3, 0|1|2, 24) = 24
            sheet(0|3, 0|1|2, 25|26|100|MAX) = BAD
            drop(0|3) = 24
            """);
        script.run("29 'SIZE: n below 0'", """
            sheet(0|3, 0|1|2, -1|-2|-24|MIN) = SIZE
            drop(0|3) = NULL
            sheet(0|3, 0|1|2, 5) = 5
            sheet(0|3, 0|1|2, -1|-2|-24|MIN) = SIZE
            drop(0|3) = 5
            """);
        script.run("29 what is refused leaves the row that was there", """
            text "m,m"
            family() = 2
            sheet(0, 1, 1) = 1
            item(0, 1, 0, 1) = 1
            dies(0) = 0
            sheet(0, 2, 25) = BAD
            sheet(0, 2, -1) = SIZE
            sheet(0, 3, 1) = BAD
            judged(0, 1, 0, 1) = NONE
            judged(0, 1, 1, 1) = INDEX
            """);
    }

    private static void newRow() {
        script.run("29 'of 0 to 24 items'", """
            sheet(0, 0, 0) = 0
            item(0, 0, 0, 1) = INDEX
            sheet(0, 0, 1) = 1
            item(0, 0, 0, 1) = 1
            item(0, 0, 1, 1) = INDEX
            sheet(0, 0, 24) = 24
            item(0, 0, 23, 1) = 1
            item(0, 0, 24, 1) = INDEX
            sheet(0, 0, 23) = 23
            item(0, 0, 23, 1) = INDEX
            """);
        StringBuilder lines = new StringBuilder("text \"m,m\"\nfamily() = 2\ndies(1) = 0\n");
        for (int s = 0; s < 4; s++) {
            lines.append("sheet(").append(s).append(", 0, 24) = 24\n");
            lines.append("item(").append(s).append(", 0, ").append(all()).append(", 1) = 1\n");
        }
        for (int s = 0; s < 4; s++) {
            lines.append("judged(").append(s).append(", 0, ").append(all()).append(", 1) = 0\n");
            lines.append("sheet(").append(s).append(", 1, 24) = 24\n");
            lines.append("judged(").append(s).append(", 1, ").append(all()).append(", 1) = NONE\n");
        }
        script.run("29 'a new row': all items of it are 0, and no other SHEET's", lines.toString());
    }

    private static String all() {
        StringBuilder told = new StringBuilder("0");
        for (int i = 1; i < 24; i++) {
            told.append('|').append(i);
        }
        return told.toString();
    }

    private static void drop() {
        script.run("30 BAD: no SHEET, ahead of NULL", """
            drop(-1|4|5|MAX|MIN) = BAD
            drop(0|3) = NULL
            """);
        script.run("30 NULL: it holds nothing, at first and behind a drop", """
            drop(0|1|2|3) = NULL
            sheet(2, 2, 5) = 5
            drop(2) = 5
            drop(2) = NULL
            judged(2, 2, 0, 1) = NULL
            item(2, 2, 0, 1) = NULL
            film(2, 2, 0) = NULL
            copy(2, 0, 2, 0, 0) = NULL
            """);
        script.run("30 'how many items it had': none, 24", """
            sheet(0, 0, 0) = 0
            sheet(1, 1, 24) = 24
            sheet(2, 2, 1) = 1
            sheet(3, 0, 23) = 23
            drop(0) = 0
            drop(1) = 24
            drop(2) = 1
            drop(3) = 23
            drop(0|1|2|3) = NULL
            """);
    }

    private static void itemRefused() {
        script.run("31 BAD: no SHEET, no LANE, ahead of NULL", """
            item(-1|4|5|MAX|MIN, 0, 0, 0) = BAD
            item(0, -1|3|4|MAX|MIN, 0, 0) = BAD
            item(0|1|2|3, 0|1|2, 0, 0) = NULL
            """);
        script.run("31 NULL, CAST ahead of INDEX", """
            item(0|3, 0|1|2, -1|0|24|MAX|MIN, 0) = NULL
            sheet(0, 0, 1) = 1
            sheet(1, 1, 1) = 1
            sheet(2, 2, 1) = 1
            item(0, 1|2, -1|0|1|MAX|MIN, 0) = CAST
            item(1, 0|2, -1|0|1|MAX|MIN, 0) = CAST
            item(2, 0|1, -1|0|1|MAX|MIN, 0) = CAST
            """);
        script.run("31 INDEX", """
            sheet(0, 0, 0) = 0
            sheet(1, 1, 24) = 24
            item(0, 0, 0|-1|1|MAX|MIN, 0) = INDEX
            item(1, 1, -1|24|25|MAX|MIN, 0) = INDEX
            item(1, 1, 0|23, 0) = 1
            """);
    }

    /** A value is fine as the number of somebody who lives, so that judged tells whether it came to be that number. */
    private static void itemBits() {
        long[] low = {1, 257, 65537, 16777217, -255, -65535, -16777215, 0x7fffff01, 0x80000001L - (1L << 32)};
        for (int lane = 0; lane < 3; lane++) {
            int bits = 8 << lane;
            for (long v : low) {
                KinGoods x = new KinGoods();
                x.person(0, 12, 12);
                x.person(0, 12, 12);
                x.sheet(1, lane, 2);
                script.same("31 an item", x.item(1, lane, 1, (int) v), 1);
                long kept = v << 64 - bits >> 64 - bits;
                script.same("31 'its lowest bits (with its sign)' of " + v, x.judged(1, lane, 1, 1), kept == 1 ? -4 : 0);
                script.same("31 its neighbour is as it was", x.judged(1, lane, 0, 1), -4);
            }
        }
        script.run("31 with its sign: 255 is -1, not 255; 128 is -128", """
            text "m,m,m,m,m,m,m,m,m,m,m,m"
            family() = 12
            sheet(0, 0, 2) = 2
            sheet(1, 1, 2) = 2
            item(0, 0, 0, 255) = 1
            judged(0, 0, 0, 1) = 0
            item(0, 0, 0, -256) = 1     # 0
            judged(0, 0, 0, 1) = NONE
            item(0, 0, 0, 267) = 1      # 11
            item(0, 0, 1, 268) = 1      # 12
            judged(0, 0, 0, 2) = 1
            item(1, 1, 0, 65547) = 1    # 11
            item(1, 1, 1, 65548) = 1    # 12
            judged(1, 1, 0, 2) = 1
            item(1, 1, 0, 32768) = 1
            judged(1, 1, 0, 1) = 0
            """);
    }

    private static void copyRefused() {
        script.run("32 BAD: no SHEET, ahead of NULL", """
            copy(-1|4|MAX|MIN, 0, 0|3, 0, 0) = BAD
            copy(0|3, 0, -1|4|MAX|MIN, 0, 0) = BAD
            copy(0, 0, 0, 0, 0) = NULL
            """);
        script.run("32 'NULL (either)', ahead of INDEX", """
            sheet(1, 1, 3) = 3
            copy(1, 0, 0|2|3, 0, 0|1|-1|4) = NULL
            copy(0|2|3, 0, 1, 0, 0|1|-1|4) = NULL
            copy(0, -1, 2, MAX, MIN) = NULL
            copy(1, 0, 1, 0, 0) = 0
            """);
        script.run("32 'CAST: of unlike LANES', ahead of INDEX, of none, too", """
            sheet(0, 0, 3) = 3
            sheet(1, 1, 3) = 3
            sheet(2, 2, 3) = 3
            copy(0, 0|-1, 1|2, 0|9, 0|1|-1|4) = CAST
            copy(1, 0|-1, 0|2, 0|9, 0|1|-1|4) = CAST
            copy(2, 0|-1, 0|1, 0|9, 0|1|-1|4) = CAST
            sheet(3, 2, 3) = 3
            copy(2, 0, 3, 0, 3) = 3
            """);
    }

    private static void copyIndex() {
        script.run("32 'INDEX (n below 0, too)'", """
            sheet(0, 0, 3) = 3
            sheet(1, 0, 5) = 5
            copy(0|1, 0, 0|1, 0, -1|-2|MIN) = INDEX
            copy(0, 1|3, 1, 1|5, -1|MIN) = INDEX
            copy(0, 3, 1, 5, 0) = 0
            """);
        script.run("32 INDEX: 'with n 0, too, if i or j is below 0 or above how many there are'", """
            sheet(0, 0, 3) = 3
            sheet(1, 0, 5) = 5
            sheet(2, 0, 0) = 0
            copy(0, -1|4|5|MAX|MIN, 1, 0, 0) = INDEX
            copy(1, 0, 0, -1|4|5|MAX|MIN, 0) = INDEX
            copy(2, 1|-1, 0, 0, 0) = INDEX
            copy(0, 0, 2, 1|-1, 0) = INDEX
            copy(0, 0|3, 1, 0|5, 0) = 0
            copy(2, 0, 2, 0, 0) = 0
            """);
        script.run("32 INDEX: the row from, the row to is too short; nothing comes then", """
            text "m,m"
            family() = 2
            dies(1) = 0
            sheet(0, 0, 3) = 3
            sheet(1, 0, 5) = 5
            item(1, 0, 0|1|2|3|4, 1) = 1
            copy(1, 0, 0, 0, 4|5|6|24|MAX) = INDEX
            copy(0, 0, 1, 0, 4|5|6|24|MAX) = INDEX
            copy(1, 3|4|5|MAX, 0, 0, 3) = INDEX
            copy(1, 0, 0, 1|2|3|MAX, 3) = INDEX
            copy(1, 2147483645, 0, 0, 3) = INDEX
            copy(1, 0, 0, 2147483645, 3) = INDEX
            copy(1, -1, 0, 0, 1) = INDEX
            copy(1, 0, 0, -1, 1) = INDEX
            copy(1, MIN, 0, MIN, 1) = INDEX
            judged(0, 0, 0|1|2, 1) = NONE
            judged(1, 0, 0|1|2|3|4, 1) = 0
            copy(1, 2, 0, 0, 3) = 3
            judged(0, 0, 0|1|2, 1) = 0
            """);
    }

    private static void copyWithin() {
        script.run("32 '(or the same) as if all were taken ahead', to a greater place", """
            text "m,m,m,m,m"
            family() = 5
            sheet(3, 1, 8) = 8
            item(3, 1, 1, 1) = 1
            item(3, 1, 2, 2) = 1
            item(3, 1, 3, 3) = 1
            item(3, 1, 4, 4) = 1
            copy(3, 0, 3, 1, 5) = 5     # 0 0 1 2 3 4 0 0
            judged(3, 1, 1, 5) = NONE
            judged(3, 1, 0, 2) = 1
            judged(3, 1, 5, 2) = NONE
            dies(4) = 0
            judged(3, 1, 5, 1) = 0
            judged(3, 1, 4, 1) = NONE
            """);
        script.run("32 to a lesser place", """
            text "m,m,m,m,m"
            family() = 5
            sheet(3, 1, 8) = 8
            item(3, 1, 3, 3) = 1
            item(3, 1, 4, 2) = 1
            item(3, 1, 5, 1) = 1
            item(3, 1, 6, 4) = 1
            copy(3, 3, 3, 2, 4) = 4     # 0 0 3 2 1 4 4 0
            judged(3, 1, 1, 5) = NONE
            judged(3, 1, 1, 6) = 5
            dies(4) = 0
            judged(3, 1, 5|6, 1) = 0
            judged(3, 1, 4|7, 1) = NONE
            """);
    }

    /** Each sheet to each other one, whole and by its last item: no stretch of items touches another one's. */
    private static void copyAll() {
        for (int from = 0; from < 4; from++) {
            for (int to = 0; to < 4; to++) {
                KinGoods x = new KinGoods();
                for (int p = 0; p < 5; p++) {
                    x.person(0, 12, 12);
                }
                x.dies(4);
                for (int s = 0; s < 4; s++) {
                    x.sheet(s, 1, 24);
                }
                x.item(from, 1, 0, 4);
                x.item(from, 1, 23, 4);
                script.same("32 copy of all, " + from + " to " + to, x.copy(from, 0, to, 0, 24), 24);
                script.same("32 copy of the last", x.copy(from, 23, to, 12, 1), 1);
                for (int s = 0; s < 4; s++) {
                    for (int i = 0; i < 24; i++) {
                        boolean four = (s == from || s == to) && i % 23 == 0 || s == to && i == 12;
                        script.same("32 item " + i + " of sheet " + s, x.judged(s, 1, i, 1), four ? 0 : -4);
                    }
                }
            }
        }
    }
}
