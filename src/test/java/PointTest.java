/** Promises 21 point, 22 unpoint, 23 fits, 24 chord, 25 cart. */
public final class PointTest {
    public static void main(String[] args) {
        points();
        fitsByHand();
        fitsWithCarts();
        sixPoints();
        cartOfSixPoints();
        chords();
        cartByHand();
        cartRefused();
        Check.end();
    }

    private static void points() {
        PenSwings x = new PenSwings();
        Check.is("first", x.point(0, -260, 260), 1);
        Check.is("second", x.point(9999, 260, -260), 2);
        int[][] bad = {{-1, 0, 0}, {10000, 0, 0}, {0, -261, 0}, {0, 261, 0}, {0, 0, -261}, {0, 0, 261},
            {0, Integer.MIN_VALUE, 0}, {0, 0, Integer.MIN_VALUE}};
        for (int[] p : bad) {
            Check.is("bad point", x.point(p[0], p[1], p[2]), PenSwings.NONE);
        }
        Check.is("refused", x.count(9), bad.length);
        for (int i = 3; i <= 6; i++) {
            Check.is("point " + i, x.point(i, 0, 0), i);
        }
        Check.is("seventh", x.point(0, 0, 0), PenSwings.NONE);
        Check.is("refused", x.count(9), bad.length + 1);
        for (int i = 5; i >= 0; i--) {
            Check.is("unpoint", x.unpoint(), i);
        }
        Check.is("unpoint none", x.unpoint(), PenSwings.NONE);
        Check.is("not refused", x.count(9), bad.length + 1);
        Check.is("points", x.count(3), 0);
    }

    private static void fits(PenSwings x, int most, int tolerance, int[] due) {
        for (int what = 0; what < 4; what++) {
            Check.is("fits " + most + " " + tolerance + " " + what, x.fits(most, tolerance, what), due[what]);
        }
    }

    private static void fitsByHand() {
        // At tick 2 a kick of a period of 2 or 3 and more: 50, -50 (3: 2 u is 4), then 4: -50, 5 and more: 50.
        PenSwings x = Check.told("pendulum kick 2 50 0 0;");
        fits(x, 2, 0, new int[] {81, 0, 0, 0});
        x.point(2, -50, 0);
        fits(x, 0, 99, new int[] {0, PenSwings.NONE, 0, 100});
        fits(x, 1, 0, new int[] {8, 1000, 1000, 0});
        fits(x, 3, 0, new int[] {2 * 64, 1000, 1000, 0});
        x.set(0, 0, 7);
        fits(x, 3, 0, new int[] {2 * 64, 1000, 1000, 0});
        Check.is("pennies are as they were", x.pendulum(0, 5), 7);
        x.unpoint();
        x.point(2, -30, 10);
        fits(x, 5, 29, new int[] {0, PenSwings.NONE, 1000, 30});
        fits(x, 5, 30, new int[] {2 * 216, 1000, 1000, 30});
        x.point(4, 50, 40);
        // At tick 4 by 1, 2, 3, 4, 5 pennies: 50, 50, -50, -50, -50.
        fits(x, 5, 40, new int[] {2 * 216, 1000, 1000, 70});
        fits(x, 5, 39, new int[] {0, PenSwings.NONE, 1000, 70});
        Check.noSuch("fits what 4", () -> x.fits(-1, 0, 4));
        Check.noSuch("fits what -1", () -> x.fits(0, 0, -1));
        Check.illegal("most 6", () -> x.fits(6, 0, 0));
        Check.illegal("most -1", () -> x.fits(-1, 0, 0));
        Check.illegal("tolerance 100", () -> x.fits(0, 100, 0));
        Check.illegal("tolerance -1", () -> x.fits(0, -1, 0));
    }

    private static void fitsWithCarts() {
        PenSwings x = Check.told("pendulum kick 2 50 0 0;pendulum kick 2 0 0 0;pendulum kick 2 7 0 0;pendulum kick 2 7 0 0;cart 2 3 -4;");
        x.point(2, -47, -4);
        // Across 2 and 3 must be against one another: one of them by 1 penny, the other one by 0.
        fits(x, 1, 0, new int[] {4, 1001, 1001, 0});
    }

    private static void sixPoints() {
        PenSwings x = Check.told("pendulum even 9 90 3 3;pendulum bowl 7 80 2 0;pendulum bowl 11 70 0 5;pendulum kick 5 60 1 9;"
            + "cart 20 -7 5;cart 40 3 3;pennies 2 5 1 4;");
        int[] ticks = {3, 17, 20, 39, 41, 88};
        for (int i = 0; i < 6; i++) {
            x.point(ticks[i], x.pen(ticks[i], 0), x.pen(ticks[i], 1));
        }
        x.set(0, 0, 9);
        x.set(3, 0, 0);
        fits(x, 5, 0, new int[] {1, 2514, 2514, 0});
        x.unpoint();
        x.set(0, 0, 2);
        x.set(3, 0, 4);
        x.point(88, x.pen(88, 0) + 2, x.pen(88, 1) - 1);
        fits(x, 5, 2, new int[] {0, PenSwings.NONE, 2514, 3});
        fits(x, 5, 3, new int[] {1, 2514, 2514, 3});
    }

    private static void cartOfSixPoints() {
        PenSwings x = Check.told("pendulum even 9 90 3 0;pendulum bowl 7 80 2 0;pendulum bowl 11 70 0 0;pendulum kick 5 60 1 0;");
        int[] ticks = {300, 17, 20, 39, 301, 88};
        for (int i = 0; i < 6; i++) {
            boolean behind = ticks[i] > 30;
            x.point(ticks[i], x.pen(ticks[i], 0) + (behind ? 4 : 0), x.pen(ticks[i], 1) + (behind ? -5 : 0));
        }
        cart("six points", x, 19, 21, 4, -5);
        x.unpoint();
        x.point(88, x.pen(88, 0) + 4, x.pen(88, 1) + 5);
        cart("another way across", x, 0, PenSwings.NONE, 0, 0);
        x.unpoint();
        x.point(19, x.pen(19, 0), x.pen(19, 1) + 1);
        cart("off across ahead of it", x, 0, PenSwings.NONE, 0, 0);
    }

    private static void chord(PenSwings x, int a, int b, int moved, int row) {
        Check.is("chord " + a + " " + b, x.chord(a, b, 0), moved);
        Check.is("chord row " + a + " " + b, x.chord(a, b, 1), row);
    }

    private static void chords() {
        PenSwings x = Check.told("pendulum even 8 1 0 0;pendulum even 30 1 0 0;pendulum even 10 1 0 0;pennies 4 0 2 0;");
        chord(x, 1, 1, 0, 42);
        chord(x, 12, 12, 0, 42);
        // 13 by 12: 5 pennies and 2; 12 by 11 and others are dearer.
        chord(x, 12, 11, 1, 41);
        // 12 and 16, 9 and 12: the latter moves 3, the former 4.
        chord(x, 3, 4, 3, 12);
        chord(x, 12, 1, PenSwings.NONE, PenSwings.NONE);
        chord(x, 1, 12, PenSwings.NONE, PenSwings.NONE);
        // 11 by 11 and 13 by 13 are as near: the fewest pennies of 0.
        PenSwings y = Check.told("pendulum even 8 1 0 0;pendulum even 30 1 0 0;pendulum even 10 1 0 0;pennies 3 0 3 0;");
        chord(y, 1, 1, 2, 31);
        // 40 to 30 is 4 to 3: 9 and 0 pennies of lengths of 31 and 30; 30 to 40 the other way.
        PenSwings z = Check.told("pendulum even 31 1 0 0;pendulum even 2 1 0 0;pendulum even 30 1 0 0;pennies 0 0 5 0;");
        chord(z, 4, 3, 14, 90);
        PenSwings w = Check.told("pendulum even 30 1 0 0;pendulum even 2 1 0 0;pendulum even 31 1 0 0;pennies 5 0 0 0;");
        chord(w, 3, 4, 14, 9);
        Check.noSuch("chord what 2", () -> x.chord(0, 0, 2));
        Check.noSuch("chord what -1", () -> x.chord(1, 1, -1));
        Check.illegal("a 0", () -> x.chord(0, 1, 0));
        Check.illegal("a 13", () -> x.chord(13, 1, 0));
        Check.illegal("b 0", () -> x.chord(1, 0, 0));
        Check.illegal("b 13", () -> x.chord(1, 13, 1));
    }

    private static void cart(String name, PenSwings x, int ticks, int least, int along, int across) {
        int[] due = {ticks, least, along, across};
        for (int what = 0; what < 4; what++) {
            Check.is(name + ", cart " + what, x.cart(what), due[what]);
        }
    }

    private static void cartByHand() {
        // The cart that was told counts for nothing here.
        PenSwings x = Check.told("pendulum kick 4 50 0 0;pendulum even 2 0 0 0;pendulum kick 4 30 0 0;cart 0 9 9;");
        cart("no points", x, 0, PenSwings.NONE, 0, 0);
        x.point(8, 50, 30);
        cart("where it is", x, 0, PenSwings.NONE, 0, 0);
        x.point(12, 70, 10);
        cart("behind 8", x, 4, 9, 20, -20);
        x.point(2000, 70, 10);
        cart("far behind", x, 4, 9, 20, -20);
        x.point(10, -50, -30);
        cart("behind 10", x, 2, 11, 20, -20);
        x.point(12, 50, 30);
        cart("two places at a tick", x, 0, PenSwings.NONE, 0, 0);
        x.unpoint();
        x.point(13, 71, 10);
        cart("another way", x, 0, PenSwings.NONE, 0, 0);
        Check.noSuch("cart 4", () -> x.cart(4));
        Check.noSuch("cart -1", () -> x.cart(-1));
    }

    private static void cartRefused() {
        PenSwings x = new PenSwings();
        x.point(5, 21, 0);
        cart("too far along", x, 0, PenSwings.NONE, 0, 0);
        x.unpoint();
        x.point(5, 0, -21);
        cart("too far across", x, 0, PenSwings.NONE, 0, 0);
        x.unpoint();
        x.point(5, 0, -1);
        cart("across alone", x, 6, 0, 0, -1);
        x.unpoint();
        x.point(9999, -1, 0);
        cart("late", x, 1000, 0, -1, 0);
        x.point(999, 0, 0);
        cart("too late", x, 0, PenSwings.NONE, 0, 0);
        x.unpoint();
        x.point(998, 0, 0);
        cart("at the last", x, 1, 999, -1, 0);
    }
}
