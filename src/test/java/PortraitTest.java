/** Promises 17 keep, 18 take, 19 alike, 20 kinds, 29 laid. */
public final class PortraitTest {
    private static final String FOUR_KICKS =
        "pendulum kick 6 10 0 0;pendulum kick 4 20 0 0;pendulum kick 6 30 0 0;pendulum kick 4 40 0 0;";

    public static void main(String[] args) {
        keepAndTake();
        ratio();
        time();
        order();
        turning();
        mirror();
        oddPeriods();
        lossIsNotAsked();
        silence();
        spent();
        kinds();
        firstOfKind();
        laid();
        Check.end();
    }

    private static void settings(PenSwings x, int what, int a, int b, int c, int d) {
        x.set(0, what, a);
        x.set(1, what, b);
        x.set(2, what, c);
        x.set(3, what, d);
    }

    /** Both ways: being alike goes both ways where neither is spent. */
    private static void alike(String name, PenSwings x, int first, int second, int due) {
        Check.is(name, x.alike(first, second), due);
        Check.is(name + ", back", x.alike(second, first), due);
    }

    private static void keepAndTake() {
        PenSwings x = Check.told("pendulum even 8 40 3 7;cart 1 1 1;pennies 1 2 3 4;");
        for (int i = 0; i < 8; i++) {
            x.set(1, 0, i);
            x.set(0, 1, 10 * i);
            x.set(2, 2, i);
            Check.is("keep " + i, x.keep(), i);
        }
        Check.is("keep 8", x.keep(), PenSwings.NONE);
        Check.is("refused", x.count(8), 1);
        Check.is("portraits", x.count(2), 8);
        x.take(3);
        Check.is("pennies", x.pendulum(1, 5), 3);
        Check.is("start", x.pendulum(0, 3), 30);
        Check.is("size", x.pendulum(2, 2), 3);
        x.set(1, 0, 9);
        x.take(3);
        Check.is("pennies again", x.pendulum(1, 5), 3);
        Check.noSuch("take 8", () -> taken(x, 8));
        Check.noSuch("take -1", () -> taken(x, -1));
        Check.is("as it was", x.pendulum(1, 5), 3);
    }

    private static int taken(PenSwings x, int portrait) {
        x.take(portrait);
        return 0;
    }

    private static void ratio() {
        PenSwings x = Check.told(FOUR_KICKS);
        x.keep();
        settings(x, 2, 20, 40, 60, 80);
        x.keep();
        settings(x, 2, 20, 40, 60, 81);
        x.keep();
        settings(x, 2, 1, 2, 3, 4);
        x.keep();
        alike("itself", x, 0, 0, 1);
        alike("twice the size", x, 0, 1, 1);
        alike("not in one ratio", x, 0, 2, 0);
        alike("a tenth", x, 0, 3, 1);
        Check.noSuch("alike 4", () -> x.alike(0, 4));
        Check.noSuch("alike -1", () -> x.alike(-1, 0));
    }

    private static void time() {
        PenSwings x = Check.told("pendulum even 6 10 1 0;pendulum even 4 20 2 0;pendulum bowl 9 30 3 0;pendulum bowl 5 40 4 0;");
        x.keep();
        settings(x, 1, (1 + 77) % 6, (2 + 77) % 4, (3 + 77) % 9, (4 + 77) % 5);
        x.keep();
        settings(x, 1, 78, 79, 80, 81);
        x.keep();
        alike("77 later", x, 0, 1, 1);
        alike("77 later, told in full", x, 0, 2, 1);
        alike("as one another", x, 1, 2, 1);
        PenSwings y = Check.told("pendulum even 9 10 1 0;pendulum even 3 20 2 0;");
        y.keep();
        y.set(1, 1, 3);
        y.keep();
        y.set(0, 1, 5);
        y.keep();
        // 9 and 3 have 3 in common, and their times would be 0 and 1; then 4 and 1.
        alike("no such time", y, 0, 1, 0);
        alike("such a time", y, 0, 2, 1);
    }

    private static void order() {
        PenSwings x = Check.told("pendulum even 6 10 1 0;pendulum even 6 20 4 0;pendulum bowl 6 30 3 0;pendulum kick 6 40 0 0;");
        x.keep();
        settings(x, 2, 20, 10, 30, 40);
        settings(x, 1, 4, 1, 3, 0);
        x.keep();
        settings(x, 2, 20, 10, 40, 30);
        settings(x, 1, 4, 1, 0, 3);
        x.keep();
        alike("0 and 1 in another order", x, 0, 1, 1);
        alike("2 and 3 are not of one kind", x, 0, 2, 0);
    }

    private static void turning() {
        PenSwings x = Check.told(FOUR_KICKS);
        settings(x, 1, 1, 2, 3, 0);
        x.keep();
        settings(x, 1, 3, 0, 1, 2);
        settings(x, 2, 30, 40, 10, 20);
        x.keep();
        alike("turned", x, 0, 1, 1);
        settings(x, 2, 30, 20, 10, 40);
        x.keep();
        alike("not one from each", x, 0, 2, 0);
        PenSwings y = Check.told("pendulum kick 6 10 0 0;pendulum even 2 0 0 0;pendulum kick 6 0 0 0;");
        y.keep();
        y.set(0, 2, 0);
        y.set(2, 2, 30);
        y.keep();
        alike("alone, turned", y, 0, 1, 1);
    }

    private static void mirror() {
        PenSwings x = Check.told(FOUR_KICKS);
        x.keep();
        settings(x, 1, 3, 2, 0, 0);
        x.keep();
        settings(x, 1, 0, 0, 3, 2);
        x.keep();
        settings(x, 1, 3, 2, 3, 2);
        x.keep();
        settings(x, 1, 3, 0, 0, 0);
        x.keep();
        alike("mirrored along", x, 0, 1, 1);
        alike("mirrored across", x, 0, 2, 1);
        alike("mirrored both", x, 0, 3, 1);
        alike("one alone of two is not mirrored", x, 0, 4, 0);
    }

    private static void oddPeriods() {
        PenSwings x = Check.told("pendulum kick 5 10 0 0;pendulum even 2 0 0 0;pendulum kick 4 10 0 0;");
        x.keep();
        x.set(2, 1, 2);
        x.keep();
        alike("another time does it", x, 0, 1, 1);
        PenSwings y = Check.told("pendulum kick 4 10 0 0;pendulum kick 5 10 0 0;pendulum kick 8 10 0 0;");
        y.keep();
        y.set(0, 1, 2);
        y.keep();
        // Along can't be mirrored, as 5 is odd; across asks for a time of 0 or 4 of 8, 0 of 4 in both.
        alike("odd along", y, 0, 1, 0);
        y.set(0, 1, 0);
        y.set(2, 1, 4);
        y.keep();
        alike("mirrored across", y, 0, 2, 1);
        y.set(1, 0, 1);
        y.keep();
        y.set(0, 1, 2);
        y.set(1, 1, 3);
        y.keep();
        alike("even along", y, 3, 4, 1);
    }

    private static void lossIsNotAsked() {
        PenSwings x = Check.told("pendulum even 8 40 0 0;pendulum even 8 0 0 50;");
        x.keep();
        x.set(0, 2, 0);
        x.set(1, 2, 40);
        x.keep();
        alike("of one kind and period", x, 0, 1, 1);
    }

    private static void silence() {
        PenSwings x = Check.told("pendulum even 8 0 0 0;");
        x.keep();
        x.set(0, 1, 7);
        x.keep();
        x.set(0, 2, 1);
        x.keep();
        alike("none in both", x, 0, 1, 1);
        alike("none in one", x, 0, 2, 0);
        x.set(0, 0, 1);
        x.keep();
        alike("another period", x, 2, 3, 0);
        x.set(0, 0, 0);
        x.set(1, 2, 1);
        x.keep();
        alike("one more", x, 2, 4, 0);
    }

    private static void spent() {
        PenSwings x = Check.told("pendulum even 9 1 0 0;pendulum even 7 1 0 0;pendulum even 5 1 0 0;pendulum even 16 1 0 0;");
        x.keep();
        Check.is("round at the edge", x.round(), 5040);
        Check.is("at the edge", x.alike(0, 0), 1);
        x.set(0, 0, 2);
        x.keep();
        Check.is("round beyond", x.round(), 11 * 7 * 5 * 16);
        Check.is("spent", x.alike(1, 1), -2);
        Check.is("the second one counts", x.alike(0, 1), -2);
        Check.is("not the first one", x.alike(1, 0), 0);
    }

    private static void kinds() {
        PenSwings x = Check.told("pendulum even 9 1 0 0;pendulum even 7 1 0 0;pendulum even 5 1 0 0;pendulum even 16 1 0 0;");
        Check.is("none", x.kinds(PenSwings.NONE), 0);
        x.set(0, 0, 2);
        x.keep();
        x.keep();
        Check.is("spent ones are new", x.kinds(PenSwings.NONE), 2);
        Check.is("of itself", x.kinds(1), 1);
        x.set(0, 0, 0);
        x.keep();
        settings(x, 2, 2, 2, 2, 2);
        x.keep();
        settings(x, 2, 2, 2, 2, 1);
        x.keep();
        settings(x, 2, 90, 90, 90, 90);
        x.keep();
        int[] due = {0, 1, 2, 2, 4, 2};
        for (int i = 0; i < due.length; i++) {
            Check.is("kind of " + i, x.kinds(i), due[i]);
        }
        Check.is("kinds", x.kinds(PenSwings.NONE), 4);
        Check.noSuch("kinds 6", () -> x.kinds(6));
        Check.noSuch("kinds -2", () -> x.kinds(-2));
    }

    private static void firstOfKind() {
        PenSwings x = Check.told(FOUR_KICKS);
        x.keep();
        x.keep();
        Check.is("of the first", x.kinds(1), 0);
        Check.is("one kind", x.kinds(PenSwings.NONE), 1);
        settings(x, 2, 1, 2, 3, 4);
        settings(x, 1, 0, 0, 0, 1);
        x.keep();
        settings(x, 1, 0, 0, 0, 0);
        x.keep();
        Check.is("not in time", x.kinds(2), 2);
        Check.is("in time", x.kinds(3), 0);
        alike("small sizes count", x, 2, 3, 0);
    }

    private static void laid() {
        PenSwings x = Check.told("pendulum kick 2 10 0 0;pendulum kick 3 20 0 0;cart 0 20 20;");
        x.keep();
        x.set(1, 2, 0);
        x.keep();
        // 30, 10, -10, ...: cells 14, 13, 12, and 11 at -30; the second one has 13 and 12.
        int[] due = {2, 2, 0};
        for (int what = 0; what < 3; what++) {
            Check.is("laid " + what, x.laid(0, 1, 0, 5, what), due[what]);
        }
        Check.is("the other way", x.laid(1, 0, 0, 5, 2), 2);
        Check.is("one tick", x.laid(0, 1, 0, 0, 1), 1);
        Check.is("itself", x.laid(0, 0, 0, 999, 0), 4);
        Check.is("the object is as it was", x.pendulum(1, 2), 0);
        Check.is("its carts too", x.pen(0, 0), 30);
        PenSwings still = Check.told("cart 2 20 0;cart 4 0 20;");
        still.keep();
        Check.is("drawn with carts", still.drawn(0, 9), 3);
        Check.is("laid without them", still.laid(0, 0, 0, 9, 0), 1);
        Check.noSuch("laid 2", () -> x.laid(2, 0, 5, 4, 0));
        Check.noSuch("laid -1", () -> x.laid(0, -1, 0, 4, 0));
        Check.noSuch("laid what", () -> x.laid(0, 1, 5, 4, 3));
        Check.illegal("laid back", () -> x.laid(0, 1, 5, 4, 0));
        Check.illegal("laid long", () -> x.laid(0, 1, 0, 1000, 0));
        Check.illegal("laid -1", () -> x.laid(0, 1, -1, 4, 0));
    }
}
