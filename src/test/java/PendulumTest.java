/** Promises 9 pendulum, 10 set, 11 swing, 12 pen, 13 drawn, 14 inCell, 15 round, 16 off. */
public final class PendulumTest {
    public static void main(String[] args) {
        settings();
        even();
        bowl();
        kick();
        dyingAway();
        pen();
        paper();
        corners();
        round();
        off();
        Check.end();
    }

    private static void settings() {
        PenSwings x = Check.told("pendulum bowl 9 81 12 19;");
        int[] due = {1, 9, 81, 12, 19, 0, 9};
        for (int what = 0; what < 7; what++) {
            Check.is("pendulum " + what, x.pendulum(0, what), due[what]);
        }
        Check.is("set pennies", x.set(0, 0, 9), 0);
        Check.is("set start", x.set(0, 1, 99), 12);
        Check.is("set size", x.set(0, 2, 90), 81);
        Check.is("set an untold one", x.set(3, 2, 7), 0);
        Check.is("pennies", x.pendulum(0, 5), 9);
        Check.is("period", x.pendulum(0, 6), 18);
        Check.is("start", x.pendulum(0, 3), 99);
        Check.is("size", x.pendulum(0, 2), 90);
        Check.is("untold size", x.pendulum(3, 2), 7);
        Check.is("told", x.count(0), 1);
        int[] most = {9, 99, 90};
        for (int what = 0; what < 3; what++) {
            Check.is("below " + what, x.set(0, what, -1), PenSwings.NONE);
            Check.is("above " + what, x.set(0, what, most[what] + 1), PenSwings.NONE);
            Check.is("least " + what, x.set(0, what, 0), most[what]);
            Check.is("most " + what, x.set(0, what, most[what]), 0);
        }
        Check.is("refused", x.count(7), 6);
        Check.noSuch("set pendulum", () -> x.set(4, 0, 99));
        Check.noSuch("set pendulum below", () -> x.set(-1, 0, 0));
        Check.noSuch("set what", () -> x.set(0, 3, 0));
        Check.noSuch("set what below", () -> x.set(0, -1, 100));
        Check.is("still refused", x.count(7), 6);
        Check.noSuch("pendulum 4", () -> x.pendulum(4, 0));
        Check.noSuch("pendulum what", () -> x.pendulum(0, 7));
        Check.noSuch("pendulum what below", () -> x.pendulum(0, -1));
    }

    private static void row(PenSwings x, int p, int from, int[] due) {
        for (int i = 0; i < due.length; i++) {
            Check.is("swing " + p + " at " + (from + i), x.swing(p, from + i), due[i]);
        }
    }

    private static void even() {
        PenSwings x = Check.told("pendulum even 10 7 0 0;pendulum even 3 90 98 0;");
        row(x, 0, 0, new int[] {0, 2, 5, 5, 2, 0, -2, -5, -5, -2, 0});
        // u is 2, 0, 1: 4 u of 8 is no more than 9, of 4 no more than 9, of 0 no more than 3.
        row(x, 1, 0, new int[] {-60, 0, 60, -60});
    }

    private static void bowl() {
        PenSwings x = Check.told("pendulum bowl 6 90 0 0;pendulum bowl 5 77 1 0;");
        row(x, 0, 0, new int[] {0, 80, 80, 0, -80, -80, 0});
        // h is 2, 4, 6, 8, 0 of 5: 24 and 16 of 25 of 77.
        row(x, 1, 0, new int[] {73, 49, -49, -73, 0});
    }

    private static void kick() {
        PenSwings x = Check.told("pendulum kick 5 33 0 0;pendulum kick 4 10 2 0;");
        row(x, 0, 0, new int[] {33, 33, 33, -33, -33, 33});
        row(x, 1, 0, new int[] {-10, -10, 10, 10});
    }

    private static void dyingAway() {
        PenSwings x = Check.told("pendulum kick 2 90 0 1;pendulum kick 2 90 0 99;pendulum kick 3 50 1 50;");
        // By 1 of 100, cut down, a size of 90 loses 1 in each period.
        for (int gone = 0; gone < 100; gone++) {
            Check.is("gone " + gone, x.swing(0, 2 * gone), Math.max(0, 90 - gone));
        }
        row(x, 1, 0, new int[] {90, -90, 0, 0});
        row(x, 2, 0, new int[] {50, -50, 50, 25, -25, 25, 12, -12, 12, 6, -6, 6, 3, -3, 3, 1, -1, 1, 0});
        Check.is("last tick", x.swing(2, 9999), 0);
        x.set(2, 0, 1);
        row(x, 2, 0, new int[] {50, -50, -50, 50, 25});
        x.set(2, 2, 60);
        row(x, 2, 4, new int[] {30, -30, -30, 30, 15});
        Check.is("told anew with another loss", Check.swings(x, "pendulum kick 2 90 0 50;pendulum kick 2 90 0 1;"), 0);
        row(x, 0, 0, new int[] {90, -90, 45, -45, 22});
        row(x, 1, 0, new int[] {90, -90, 89, -89, 88});
        Check.noSuch("swing 4", () -> x.swing(4, -1));
        Check.noSuch("swing -1", () -> x.swing(-1, 0));
        Check.illegal("tick -1", () -> x.swing(0, -1));
        Check.illegal("tick 10000", () -> x.swing(3, 10000));
    }

    private static void pen() {
        PenSwings x = Check.told("pendulum kick 2 9 0 0;pendulum kick 4 50 0 0;pendulum kick 6 1 0 0;pendulum kick 2 70 1 0;"
            + "cart 1 5 -6;cart 3 -20 0;cart 1 1 1;");
        int[] along = {59, 41 + 6, 9 - 50 + 6, -59 - 14, 59 - 14};
        int[] across = {-69, 71 - 5, -69 - 5, 69 - 5, -71 - 5};
        for (int tick = 0; tick < along.length; tick++) {
            Check.is("along " + tick, x.pen(tick, 0), along[tick]);
            Check.is("across " + tick, x.pen(tick, 1), across[tick]);
        }
        Check.noSuch("axis 2", () -> x.pen(-1, 2));
        Check.noSuch("axis -1", () -> x.pen(0, -1));
        Check.illegal("tick -1", () -> x.pen(-1, 0));
        Check.illegal("tick 10000", () -> x.pen(10000, 1));
    }

    private static void paper() {
        // Along 19, -1, 20, -20 by its sizes: cells 13, 12, 14, 12 of the middle row.
        PenSwings x = Check.told("pendulum kick 2 19 0 0;cart 1 18 0;cart 2 -17 0;cart 3 -2 0;");
        Check.is("cell at 0", x.inCell(13 * 27 + 13, 0, 0), 0);
        Check.is("cell at 1", x.inCell(13 * 27 + 12, 0, 9), 1);
        Check.is("cell at 2", x.inCell(13 * 27 + 14, 0, 9), 2);
        Check.is("again", x.inCell(13 * 27 + 12, 2, 9), 3);
        Check.is("none", x.inCell(0, 0, 999), PenSwings.NONE);
        Check.is("drawn 0", x.drawn(0, 0), 1);
        Check.is("drawn 0 1", x.drawn(0, 1), 2);
        Check.is("drawn 0 2", x.drawn(0, 2), 3);
        Check.is("drawn 0 3", x.drawn(0, 3), 3);
        Check.is("drawn 1 3", x.drawn(1, 3), 2);
        Check.is("drawn last", x.drawn(9000, 9999), 2);
        Check.illegal("drawn -1", () -> x.drawn(-1, 0));
        Check.illegal("drawn 10000", () -> x.drawn(9999, 10000));
        Check.illegal("drawn back", () -> x.drawn(5, 4));
        Check.illegal("drawn long", () -> x.drawn(0, 1000));
        Check.illegal("drawn far", () -> x.drawn(Integer.MIN_VALUE, Integer.MAX_VALUE));
        Check.noSuch("cell 729", () -> x.inCell(729, 5, 4));
        Check.noSuch("cell -1", () -> x.inCell(-1, 0, 4));
        Check.illegal("inCell back", () -> x.inCell(728, 5, 4));
        Check.illegal("inCell long", () -> x.inCell(0, 1, 1001));
        Check.illegal("inCell 10000", () -> x.inCell(0, 10000, 10000));
    }

    private static void corners() {
        PenSwings x = Check.told("pendulum kick 2 90 0 0;pendulum kick 2 90 0 0;pendulum kick 2 90 1 0;pendulum kick 2 90 1 0;"
            + "cart 0 20 -20;cart 0 20 -20;cart 0 20 -20;cart 0 20 -20;");
        Check.is("along", x.pen(0, 0), 260);
        Check.is("across", x.pen(0, 1), -260);
        Check.is("cell", x.inCell(26, 0, 0), 0);
        PenSwings y = Check.told("pendulum kick 2 90 1 0;pendulum kick 2 90 1 0;pendulum kick 2 90 0 0;pendulum kick 2 90 0 0;"
            + "cart 0 -20 20;cart 0 -20 20;cart 0 -20 20;cart 0 -20 20;");
        Check.is("cell", y.inCell(26 * 27, 0, 0), 0);
        PenSwings z = Check.told("pendulum kick 2 90 1 0;pendulum kick 2 90 1 0;pendulum kick 2 90 1 0;pendulum kick 2 90 1 0;"
            + "cart 0 -20 -20;cart 0 -20 -20;cart 0 -20 -20;cart 0 -20 -20;");
        Check.is("cell", z.inCell(0, 0, 0), 0);
        Check.is("drawn", z.drawn(0, 0), 1);
        // Across 19, -1, 20, -20 and then -21: rows 13, 12, 14, 12, 11.
        PenSwings w = Check.told("pendulum even 2 0 0 0;pendulum even 2 0 0 0;pendulum kick 2 19 0 0;"
            + "cart 1 0 18;cart 2 0 -17;cart 3 0 -2;cart 5 0 -1;");
        Check.is("row 13", w.inCell(13 * 27 + 13, 0, 9), 0);
        Check.is("row 12", w.inCell(12 * 27 + 13, 0, 9), 1);
        Check.is("row 14", w.inCell(14 * 27 + 13, 0, 9), 2);
        Check.is("row 12 again", w.inCell(12 * 27 + 13, 2, 9), 3);
        Check.is("row 11", w.inCell(11 * 27 + 13, 0, 9), 5);
    }

    private static void round() {
        PenSwings x = Check.told("pendulum even 40 1 0 0;pendulum even 39 1 0 0;pendulum even 37 1 0 0;pendulum even 36 0 0 0;");
        Check.is("round of three", x.round(), 40 * 39 * 37);
        x.set(3, 2, 1);
        Check.is("round of four", x.round(), 40 * 39 * 37 * 3);
        x.set(0, 0, 9);
        x.set(1, 0, 8);
        x.set(2, 0, 9);
        x.set(3, 0, 9);
        Check.is("49, 47, 46, 45", x.round(), 49 * 47 * 46 * 45);
        for (int p = 0; p < 4; p++) {
            x.set(p, 2, 0);
        }
        Check.is("none", x.round(), 1);
    }

    private static void off() {
        PenSwings x = Check.told("pendulum kick 2 50 0 10;pendulum kick 3 90 0 0;pendulum kick 4 80 2 50;cart 5 20 20;");
        // The round is 12: 50, 45, 40, 36, 32, 28, 25; the second is as it was; -80, -40, -20, -10.
        Check.is("off", x.off(), 25 + 70);
        x.set(0, 2, 0);
        x.set(2, 2, 0);
        Check.is("all as it was", x.off(), 0);
        PenSwings z = Check.told("pendulum kick 2 9 0 0;pendulum kick 4 8 0 50;pendulum kick 2 90 0 0;pendulum kick 2 60 1 50;");
        // 8, 4 along; -60, -30, -15 across.
        Check.is("the second ones", z.off(), 4 + 45);
        PenSwings y = Check.told("pendulum kick 40 90 0 99;pendulum kick 39 9 0 0;pendulum kick 37 9 0 0;pendulum kick 29 9 0 0;");
        Check.is("far round", y.round(), 40 * 39 * 37 * 29);
        Check.is("far off", y.off(), 90);
    }
}
