import java.math.BigInteger;
import java.util.ArrayList;
import java.util.List;

/** The edges that the document names of lots: promises 22, 23 and section 3's LOTS; draws are worked in great numbers. */
public final class LotsBoundsTest {
    private static final BigInteger BITS_31 = BigInteger.TWO.pow(31);
    private static final Script script = new Script();

    public static void main(String[] args) {
        refused();
        draw();
        nobodyLives();
        whoDies();
        deathsAreWorked();
        whoBears();
        firstOfAllBears();
        noneToBear();
        twelve();
        manySteps();
        script.end();
    }

    private static int next(int draw) {
        BigInteger product = BigInteger.valueOf(draw).multiply(BigInteger.valueOf(1103515245));
        return product.add(BigInteger.valueOf(12345)).mod(BITS_31).intValueExact();
    }

    private static int left(int draw, int by) {
        return draw / 65536 % by;
    }

    /** Seeds at both ends of 31 bits and about where products wrap, and some between. */
    private static List<Integer> seeds() {
        List<Integer> found = new ArrayList<>(List.of(0, 1, 2, 3, 65535, 65536, 65537, 1 << 30, (1 << 30) - 1, Integer.MAX_VALUE - 1, Integer.MAX_VALUE));
        int v = 7;
        for (int i = 0; i < 120; i++) {
            v = next(v) ^ i;
            found.add(v);
        }
        return found;
    }

    private static KinGoods family(String text, int seed) {
        KinGoods x = new KinGoods();
        Script.type(x, text);
        script.same("22 the family " + text, x.family(), text.split(",").length);
        script.same("23 what THE DRAW was", x.seed(seed), 1);
        return x;
    }

    private static void refused() {
        script.run("22 'n LOTS (1 .. 30)'", """
            text "m,wsa"
            family() = 2
            lots(0|-1|31|32|100|MAX|MIN) = BAD
            count(0|1) = 2
            seed(1) = 1                 # nothing was drawn
            lots(1) = 100
            text "m"
            family() = 1
            lots(30) = 1
            """);
        script.run("23 'BAD: below 0'", """
            seed(-1|-2|-65536|MIN) = BAD
            seed(0) = 1
            seed(-1) = BAD
            seed(MAX) = 0
            seed(-1|MIN) = BAD
            seed(1) = 2147483647
            """);
    }

    private static void draw() {
        for (int v : seeds()) {
            KinGoods x = new KinGoods();
            script.same("23 what it was", x.seed(v), 1);
            script.same("22 nobody is there", x.lots(1), 0);
            script.same("22 'the lowest 31 bits of itself times 1103515245 and 12345 more', from " + v, x.seed(0), next(v));
            script.same("23 what it was", x.seed(v), 0);
            script.same("23 what it was, the same again", x.seed(1), v);
        }
    }

    private static void nobodyLives() {
        for (int v : seeds()) {
            KinGoods x = family("m,w", v);
            x.dies(0);
            x.dies(1);
            script.same("22 'On 0, if somebody lives': nobody does, from " + v, x.lots(1), 0);
            script.same("22 drawn once then", x.seed(0), next(v));
            script.same("22 nobody is born", x.count(0), 2);
        }
    }

    /** Of k who live, with a dead one ahead of them and one among them. */
    private static void whoDies() {
        for (int v : seeds()) {
            int first = next(v);
            int second = next(first);
            for (int k = 1; k <= 10; k++) {
                KinGoods x = family("m,m,m,m,m,m,m,m,m,m,m,m".substring(0, 2 * (k + 2) - 1), v);
                int gap = 1 + k / 2;
                x.dies(0);
                x.dies(gap);
                int at = 1 + left(second, k);
                int dead = at < gap ? at : at + 1;
                boolean dies = left(first, 3) == 0;
                script.same("22 'a remainder by 3', 0 is a death, from " + v, x.lots(1), dies ? 1 : 0);
                script.same("22 'that one of them (by numbers, from 0 on) dies' " + dead, x.told(dead, 1), dies ? 0 : 1);
                script.same("22 and nobody else", x.count(1), dies ? k - 1 : k);
                script.same("22 drawn again only then", x.seed(0), dies ? second : first);
            }
        }
    }

    private static void deathsAreWorked() {
        for (int v : seeds()) {
            if (left(next(v), 3) != 0 || left(next(next(v)), 2) != 0) {
                continue;
            }
            KinGoods x = family("m,mfa", v);
            x.thing(0, 5, 0, 12);
            x.thing(1, 5, 1, 0);
            script.same("22 the first of two dies, from " + v, x.lots(1), 1);
            script.same("22 what that one held goes to the heir", x.of(0, 2), 1);
            script.same("22 a debt whose sides are one ends", x.of(1, 2), 13);
        }
    }

    /** Women with a spouse are 2, 5 and 7; one more is free, one is dead, one a widow. */
    private static void whoBears() {
        int[] wives = {2, 5, 7};
        int[] husbands = {1, 6, 4};
        for (int v : seeds()) {
            KinGoods x = family("w,m,wsb,w,m,w,msf,wse,m,wsi", v);
            x.dies(3);
            x.dies(8);
            int first = next(v);
            int second = next(first);
            int third = next(second);
            boolean bears = left(first, 3) != 0;
            script.same("22 'On 1, 2' a birth, from " + v, x.lots(1), bears ? 100 : 1);
            script.same("22 one more", x.count(0), bears ? 11 : 10);
            script.same("22 so many live", x.count(1), bears ? 9 : 7);
            if (bears) {
                int which = left(second, 3);
                script.same("22 'that one of them bears a child'", x.told(10, 3), wives[which]);
                script.same("22 'of the SPOUSE'", x.told(10, 2), husbands[which]);
                script.same("22 'a remainder by 2: its sex'", x.told(10, 0), left(third, 2));
                script.same("22 the child lives", x.told(10, 1), 1);
                script.same("22 and has no SPOUSE", x.told(10, 4), 12);
                script.same("22 and no GODCHILD", x.told(10, 5), 12);
            }
            script.same("22 how often it was drawn", x.seed(0), bears ? third : second);
        }
    }

    private static void firstOfAllBears() {
        for (int v : seeds()) {
            if (left(next(v), 3) == 0) {
                continue;
            }
            KinGoods x = family("w,msa", v);
            script.same("22 the first of all bears, from " + v, x.lots(1), 100);
            script.same("22 the child's MOTHER", x.told(2, 3), 0);
            script.same("22 the child's FATHER", x.told(2, 2), 1);
        }
    }

    private static void noneToBear() {
        for (int v : seeds()) {
            int first = next(v);
            if (left(first, 3) == 0) {
                continue;
            }
            KinGoods x = family("m,w,m,wsc", v);
            x.dies(2);
            script.same("22 'if WOMEN live who have a SPOUSE': a widow has none, from " + v, x.lots(1), 0);
            script.same("22 drawn once then", x.seed(0), first);
            KinGoods y = family("m,w,m,wsc", v);
            y.dies(3);
            script.same("22 a dead wife, whose SPOUSE is told still, bears none", y.lots(1), 0);
            script.same("22 drawn once then", y.seed(0), first);
        }
    }

    private static void twelve() {
        for (int v : seeds()) {
            int first = next(v);
            if (left(first, 3) == 0) {
                continue;
            }
            KinGoods x = family("m,m,m,m,m,m,m,m,m,m,m,wsa", v);
            script.same("22 'if there are fewer than 12 PEOPLE': there are 12, from " + v, x.lots(1), 0);
            script.same("22 drawn once then", x.seed(v), first);
            x.dies(5);
            script.same("22 the dead are PEOPLE, too", x.lots(1), 0);
            KinGoods y = family("m,m,m,m,m,m,m,m,m,m,wsa", v);
            script.same("22 there are 11", y.lots(1), 100);
            script.same("22 the twelfth", y.count(0), 12);
            script.same("22 the twelfth's FATHER", y.told(11, 2), 0);
            script.same("22 the twelfth's MOTHER", y.told(11, 3), 10);
        }
    }

    /** Thirty at once are as thirty by one. */
    private static void manySteps() {
        for (int v : seeds()) {
            KinGoods x = family("m,wsa,m,wsc", v);
            KinGoods y = family("m,wsa,m,wsc", v);
            int sum = 0;
            for (int i = 0; i < 30; i++) {
                sum += y.lots(1);
            }
            script.same("22 'how many died, and 100 times how many were born', from " + v, x.lots(30), sum);
            script.same("22 died", sum % 100, x.count(0) - x.count(1));
            script.same("22 born", sum / 100, x.count(0) - 4);
            script.same("22 as many live", x.count(1), y.count(1));
            script.same("22 the same draw", x.seed(0), y.seed(0));
        }
    }
}
