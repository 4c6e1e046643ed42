/** Promises 26 and 28 to 32: judged, film, sheet, drop, item, copy. */
public final class SheetsTest {
    private static final Script script = new Script();

    public static void main(String[] args) {
        judged();
        judgedRefused();
        film();
        sheet();
        drop();
        item();
        copy();
        copyRefused();
        script.end();
    }

    private static void judged() {
        script.run("26 judged", """
            text "m,m,m,m,m,m,m,m,m"
            family() = 9
            thing(0, 1, 0, 12) = 0
            sheet(0, 0, 10) = 10
            item(0, 0, 0, 3) = 1
            item(0, 0, 1, 1) = 1
            item(0, 0, 2, 3) = 1
            item(0, 0, 3, 9) = 1
            item(0, 0, 4, -1) = 1
            item(0, 0, 5, 12) = 1
            judged(0, 0, 0, 1) = NONE
            judged(0, 0, 0, 2) = NONE
            judged(0, 0, 0, 3) = 2      # 3 is dead by then
            judged(0, 0, 1, 2) = NONE
            judged(0, 0, 1, 3) = 2      # nobody is 9
            judged(0, 0, 3, 1) = 0
            judged(0, 0, 2, 3) = 1
            judged(0, 0, 4, 2) = 0
            judged(0, 0, 5, 1) = 0
            judged(0, 0, 6, 2) = 1      # 0 twice
            count(1) = 9                # nothing is changed
            told(3, 1) = 1
            of(0, 2) = 0
            dies(1) = 0
            judged(0, 0, 0, 3) = 1
            judged(0, 0, 1, 1) = 0
            """);
        script.run("26 eight", """
            text "m,m,m,m,m,m,m,m"
            family() = 8
            sheet(3, 2, 8) = 8
            item(3, 2, 0, 7) = 1
            item(3, 2, 1, 6) = 1
            item(3, 2, 2, 5) = 1
            item(3, 2, 3, 4) = 1
            item(3, 2, 4, 3) = 1
            item(3, 2, 5, 2) = 1
            item(3, 2, 6, 1) = 1
            judged(3, 2, 0, 8) = NONE
            item(3, 2, 7, 4) = 1
            judged(3, 2, 0, 8) = 7
            item(3, 2, 7, 256) = 1      # an int keeps it
            judged(3, 2, 0, 8) = 7
            item(3, 2, 7, 65536) = 1
            judged(3, 2, 0, 8) = 7
            """);
    }

    private static void judgedRefused() {
        script.run("26 refused", """
            person(0, 12, 12) = 0
            judged(0, 0, 0, 1) = NULL
            judged(0, 0, 0, 0) = BAD
            judged(0, 3, 0, 1) = BAD
            sheet(0, 1, 6) = 6
            judged(0, 1, 0, 0) = BAD
            judged(0, 1, 0, -1) = BAD
            judged(0, 1, 0, 9) = BAD
            judged(4, 1, 0, 1) = BAD
            judged(-1, 1, 0, 1) = BAD
            judged(0, 3, 0, 1) = BAD
            judged(0, -1, 0, 1) = BAD
            judged(1, 1, 0, 1) = NULL
            judged(1, 1, -1, 1) = NULL
            judged(0, 0, 0, 1) = CAST
            judged(0, 2, 0, 1) = CAST
            judged(0, 2, 9, 1) = CAST
            judged(0, 1, -1, 1) = INDEX
            judged(0, 1, 6, 1) = INDEX
            judged(0, 1, 5, 2) = INDEX
            judged(0, 1, 0, 7) = INDEX  # though the second can't be
            judged(0, 1, MAX, 1) = INDEX
            judged(0, 1, MAX, 8) = INDEX
            judged(0, 1, MIN, 1) = INDEX
            judged(0, 1, 5, 1) = NONE
            judged(0, 1, 0, 6) = 1
            """);
    }

    private static void film() {
        script.run("28 film", """
            text "m,wfa,mfa,m"
            family() = 4
            sheet(0, 0, 4) = 4
            film(0, 0, 0) = 0           # of none
            film(0, 0, 4) = 0
            film(0, 0, 5) = INDEX
            film(0, 0, -1) = INDEX
            thing(1, 1, 0, 1) = 0
            thing(3, 1, 0, 12) = 1
            thing(0, 1, 3, 12) = 2
            film(0, 0, 1) = 3           # 0 0 0 3
            judged(0, 0, 2, 2) = NONE
            judged(0, 0, 0, 4) = 1
            dies(0) = 2
            film(0, 0, 1) = 3           # 0 13 12 3
            judged(0, 0, 3, 1) = NONE
            judged(0, 0, 1, 1) = 0
            judged(0, 0, 2, 1) = 0
            text "m,m,m,m,m,m,m,m,m,m,m,m"
            family() = 12
            judged(0, 0, 1, 3) = 0      # 12 and 13 are nobody
            judged(0, 0, 2, 2) = 0
            judged(0, 0, 3, 1) = NONE
            dies(3) = 0
            judged(0, 0, 3, 1) = 0
            """);
        script.run("28 refused", """
            text "m,m"
            family() = 2
            thing(0, 1, 1, 12) = 0
            thing(0, 1, 1, 12) = 1
            sheet(2, 1, 3) = 3
            film(2, 1, 2) = INDEX
            film(2, 1, 3) = INDEX
            film(2, 1, MAX) = INDEX
            film(2, 1, -1) = INDEX
            film(2, 1, MIN) = INDEX
            judged(2, 1, 2, 1) = NONE
            dies(1) = 2
            judged(2, 1, 0, 1) = NONE   # all of it is 0 still
            judged(2, 1, 1, 1) = NONE
            judged(2, 1, 2, 1) = NONE
            film(4, 1, 0) = BAD
            film(-1, 1, 0) = BAD
            film(2, 3, 0) = BAD
            film(2, -1, 0) = BAD
            film(0, 1, 0) = NULL
            film(0, 1, 9) = NULL
            film(2, 0, 0) = CAST
            film(2, 2, 9) = CAST
            film(2, 1, 1) = 2
            judged(2, 1, 0, 1) = NONE
            judged(2, 1, 1, 1) = 0
            judged(2, 1, 2, 1) = 0
            """);
    }

    private static void sheet() {
        script.run("29 sheet", """
            person(0, 12, 12) = 0
            person(0, 12, 12) = 1
            sheet(0, 0, 0) = 0
            sheet(3, 2, 24) = 24
            sheet(0, 0, 25) = BAD
            sheet(0, 0, MAX) = BAD
            sheet(4, 0, 1) = BAD
            sheet(-1, 0, 1) = BAD
            sheet(4, 0, -1) = BAD       # ahead of SIZE
            sheet(0, 3, 1) = BAD
            sheet(0, -1, 1) = BAD
            sheet(0, 3, -1) = BAD
            sheet(0, 0, -1) = SIZE
            sheet(0, 0, MIN) = SIZE
            drop(0) = 0                 # the row of none is still there
            sheet(0, 1, -1) = SIZE
            drop(0) = NULL
            sheet(1, 1, 2) = 2
            item(1, 1, 0, 1) = 1
            item(1, 1, 1, 1) = 1
            dies(1) = 0
            judged(1, 1, 0, 1) = 0
            sheet(1, 2, 25) = BAD
            judged(1, 1, 0, 1) = 0
            sheet(1, 2, 2) = 2          # a new row is of zeros
            judged(1, 2, 0, 1) = NONE
            judged(1, 2, 1, 1) = NONE
            judged(1, 1, 0, 1) = CAST
            judged(1, 2, 2, 1) = INDEX
            item(1, 2, 1, 1) = 1
            sheet(1, 2, 1) = 1
            sheet(1, 2, 2) = 2
            judged(1, 2, 1, 1) = NONE
            judged(3, 2, 23, 1) = NONE
            """);
    }

    private static void drop() {
        script.run("30 drop", """
            drop(0) = NULL
            drop(4) = BAD
            drop(-1) = BAD
            sheet(0, 2, 7) = 7
            sheet(1, 2, 3) = 3
            drop(0) = 7
            drop(0) = NULL
            item(0, 2, 0, 0) = NULL
            drop(1) = 3
            sheet(2, 0, 0) = 0
            drop(2) = 0
            drop(2) = NULL
            """);
    }

    private static void item() {
        script.run("31 item", """
            text "m,m"
            family() = 2
            sheet(0, 0, 3) = 3
            item(0, 0, 0, 1) = 1
            item(0, 0, 2, 256) = 1      # a byte of it: 0
            judged(0, 0, 0, 3) = 2      # 1 0 0
            judged(0, 0, 0, 2) = NONE
            item(0, 0, 1, 257) = 1      # 1
            judged(0, 0, 0, 2) = 1
            judged(0, 0, 1, 2) = NONE
            item(0, 0, 1, -255) = 1     # 1
            judged(0, 0, 1, 2) = NONE
            item(0, 0, 1, 255) = 1      # -1
            judged(0, 0, 1, 1) = 0
            sheet(1, 1, 2) = 2
            item(1, 1, 0, 65537) = 1    # 1
            judged(1, 1, 0, 2) = NONE
            item(1, 1, 0, 257) = 1
            judged(1, 1, 0, 1) = 0
            item(1, 1, 1, -65535) = 1   # 1
            judged(1, 1, 1, 1) = NONE
            sheet(2, 2, 1) = 1
            item(2, 2, 0, 65536) = 1
            judged(2, 2, 0, 1) = 0
            item(2, 2, 0, 1) = 1
            dies(0) = 0
            judged(2, 2, 0, 1) = NONE
            judged(1, 1, 1, 1) = NONE
            """);
        script.run("31 refused", """
            person(0, 12, 12) = 0
            item(4, 0, 0, 1) = BAD
            item(-1, 0, 0, 1) = BAD
            item(0, 3, 0, 1) = BAD
            item(0, -1, 0, 1) = BAD
            item(0, 0, 0, 1) = NULL
            item(0, 0, 9, 1) = NULL
            sheet(0, 1, 2) = 2
            item(0, 0, 0, 1) = CAST
            item(0, 2, 9, 1) = CAST
            item(0, 1, 2, 1) = INDEX
            item(0, 1, -1, 1) = INDEX
            item(0, 1, MAX, 1) = INDEX
            item(0, 1, MIN, 1) = INDEX
            judged(0, 1, 0, 1) = NONE
            judged(0, 1, 1, 1) = NONE
            sheet(1, 0, 0) = 0
            item(1, 0, 0, 1) = INDEX
            """);
    }

    private static void copy() {
        script.run("32 copy, ahead and back in one", """
            text "m,m,m,m"
            family() = 4
            sheet(0, 0, 6) = 6
            item(0, 0, 0, 3) = 1
            item(0, 0, 1, 2) = 1
            item(0, 0, 2, 1) = 1
            copy(0, 0, 0, 1, 3) = 3     # 3 3 2 1 0 0
            judged(0, 0, 1, 4) = NONE
            judged(0, 0, 0, 4) = 1
            judged(0, 0, 1, 5) = 4
            copy(0, 1, 0, 0, 4) = 4     # 3 2 1 0 0 0
            judged(0, 0, 0, 4) = NONE
            judged(0, 0, 3, 2) = 1
            copy(0, 0, 0, 0, 6) = 6
            judged(0, 0, 0, 4) = NONE
            copy(0, 0, 0, 6, 0) = 0
            copy(0, 6, 0, 0, 0) = 0
            """);
        script.run("32 copy to another", """
            text "m,m,m,m"
            family() = 4
            sheet(0, 2, 3) = 3
            sheet(1, 2, 5) = 5
            item(0, 2, 0, 3) = 1
            item(0, 2, 1, 99) = 1
            item(0, 2, 2, 1) = 1
            copy(0, 2, 1, 4, 1) = 1
            copy(0, 0, 1, 3, 1) = 1     # 0 0 0 3 1
            judged(1, 2, 2, 3) = NONE
            judged(1, 2, 1, 2) = 1
            copy(0, 1, 1, 0, 2) = 2     # 99 1 0 3 1
            judged(1, 2, 0, 1) = 0
            judged(1, 2, 1, 3) = NONE
            judged(1, 2, 1, 4) = 3
            judged(0, 2, 0, 2) = 1      # the first is as it was
            judged(0, 2, 2, 1) = NONE
            copy(1, 2, 0, 0, 3) = 3
            judged(0, 2, 0, 3) = NONE
            """);
    }

    private static void copyRefused() {
        script.run("32 refused", """
            person(0, 12, 12) = 0
            copy(4, 0, 0, 0, 0) = BAD
            copy(0, 0, 4, 0, 0) = BAD
            copy(-1, 0, 0, 0, 0) = BAD
            copy(0, 0, -1, 0, 0) = BAD
            copy(0, 0, 1, 0, 0) = NULL
            sheet(0, 0, 3) = 3
            copy(0, 0, 1, 0, 0) = NULL
            copy(1, 0, 0, 0, 0) = NULL
            copy(0, -1, 1, 0, 0) = NULL
            copy(0, 0, 4, 0, 0) = BAD   # ahead of NULL
            sheet(1, 1, 5) = 5
            copy(0, 0, 1, 0, 1) = CAST
            copy(0, -1, 1, 0, -1) = CAST
            sheet(2, 0, 5) = 5
            item(2, 0, 0, 7) = 1
            item(2, 0, 1, 7) = 1
            item(2, 0, 2, 7) = 1
            copy(2, 0, 0, 0, -1) = INDEX
            copy(2, -1, 0, 0, 1) = INDEX
            copy(2, 0, 0, -1, 1) = INDEX
            copy(2, 0, 0, 0, 4) = INDEX
            copy(0, 0, 2, 0, 4) = INDEX
            copy(2, 0, 0, 1, 3) = INDEX
            copy(0, 1, 2, 0, 3) = INDEX
            copy(2, 0, 0, 3, 1) = INDEX
            copy(2, MAX, 0, 0, 1) = INDEX
            copy(2, 0, 0, MAX, 1) = INDEX
            copy(2, 0, 0, 0, MAX) = INDEX
            copy(2, 1, 0, 1, MAX) = INDEX
            copy(2, 0, 0, 0, MIN) = INDEX
            copy(2, MIN, 0, 0, 0) = INDEX
            copy(2, 6, 0, 0, 0) = INDEX
            copy(2, 0, 0, 4, 0) = INDEX
            copy(2, -1, 0, 0, 0) = INDEX
            copy(2, 0, 0, -1, 0) = INDEX
            copy(2, 5, 0, 3, 0) = 0
            judged(0, 0, 0, 1) = NONE   # all of it is 0 still
            judged(0, 0, 1, 1) = NONE
            judged(0, 0, 2, 1) = NONE
            copy(2, 0, 0, 0, 3) = 3
            judged(0, 0, 2, 1) = 0
            """);
    }
}
